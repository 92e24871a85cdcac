/-! FLOWS: the mathematics of cuts -/
/-- only some numbers of one group have changed, and nothing of what flows beyond the arcs -/
def Fr (b : Nat) (L : List Nat) (σ τ : Mem) : Prop := (∀ g k : Nat, (g ≠ b + 6 ∨ k ∉ L) → τ (g, k) = σ (g, k)) ∧ ∀ j, σ (0, 1) 0 ≤ j → τ (b + 6, 3) j = σ (b + 6, 3) j
theorem Fr.rf {b : Nat} {L : List Nat} {σ : Mem} : Fr b L σ σ := ⟨fun _ _ _ => rfl, fun _ _ => rfl⟩
theorem Fr.tr {b : Nat} {L : List Nat} {σ τ υ : Mem} (h : Fr b L σ τ) (k : Fr b L τ υ) : Fr b L σ υ := ⟨fun g j hq => (k.1 g j hq).trans (h.1 g j hq), fun j hj => (k.2 j (by rw [h.1 0 1 (Or.inl (by omega))]; exact hj)).trans (h.2 j hj)⟩
theorem Fr.up {b : Nat} {L M : List Nat} {σ τ : Mem} (h : Fr b L σ τ) (hs : ∀ k ∈ L, k ∈ M) : Fr b M σ τ := ⟨fun g k hq => h.1 g k (hq.elim Or.inl (fun e => Or.inr (fun q => e (hs k q)))), h.2⟩
theorem Fr.set0 {b k : Nat} {L : List Nat} {σ : Mem} {z x : Int} (h : k ∈ L) : ∀ g j : Nat, (g ≠ b + 6 ∨ j ∉ L) → mset σ (b + 6, k) z x (g, j) = σ (g, j) := fun g j hq => mset_id (fun e => by
  cases e
  rcases hq with hq | hq
  · exact hq rfl
  · exact hq h)
theorem Fr.set {b k : Nat} {L : List Nat} {σ : Mem} {z x : Int} (h : k ∈ L) (h3 : k ≠ 3 := by decide) : Fr b L σ (mset σ (b + 6, k) z x) := ⟨Fr.set0 h, fun j _ => congrFun (mset_id (fun e => h3 (by cases e; rfl))) j⟩
theorem Fr.set3 {b : Nat} {L : List Nat} {σ : Mem} {z x : Int} (h : 3 ∈ L) (hz : z < σ (0, 1) 0) : Fr b L σ (mset σ (b + 6, 3) z x) := ⟨Fr.set0 h, fun j hj => mset_ix (by omega)⟩
theorem Fr.of {b : Nat} {L : List Nat} {σ τ : Mem} (h : Fr b L σ τ) (g k : Nat) (hq : g < 6 := by decide) : τ (g, k) = σ (g, k) := h.1 g k (Or.inl (by omega))
theorem Fr.own {b : Nat} {L : List Nat} {σ τ : Mem} (h : Fr b L σ τ) (k : Nat) (hq : k ∉ L := by decide) : τ (b + 6, k) = σ (b + 6, k) := h.1 _ k (Or.inr hq)
theorem Fr.net {b : Nat} {L : List Nat} {σ τ : Mem} (h : Fr b L σ τ) (hN : NetOk σ) : NetOk τ := by
  unfold NetOk at hN ⊢
  rw [h.of 0 0, h.of 0 1, h.of 0 2, h.of 0 3]
  exact hN
theorem Fr.adj {b : Nat} {L : List Nat} {σ τ : Mem} (h : Fr b L σ τ) (hN : AdjOk σ) : AdjOk τ := by
  unfold AdjOk at hN ⊢
  have e : ∀ v : Nat, τ (1, v) = σ (1, v) := fun v => h.of 1 v
  simp only [h.of 0 0, h.of 0 1, h.of 0 2, h.of 0 3, h.of 0 4, e]
  exact hN
theorem Fr.fl {b : Nat} {L : List Nat} {σ τ : Mem} (h : Fr b L σ τ) (h2 : 2 ∉ L := by decide) (h3 : 3 ∉ L := by decide) (hN : FlOk σ b) : FlOk τ b := by
  unfold FlOk at hN ⊢
  rw [h.own 2 h2, h.own 3 h3, h.of 0 1]
  exact hN
def ind (X : Int → Bool) (v x : Int) : Int := if X v = true then x else 0
theorem ind_t {X : Int → Bool} {v x : Int} (h : X v = true) : ind X v x = x := if_pos h
theorem ind_f {X : Int → Bool} {v x : Int} (h : ¬ X v = true) : ind X v x = 0 := if_neg h
theorem ind_add (X : Int → Bool) (v x y : Int) : ind X v (x + y) = ind X v x + ind X v y := by unfold ind; split <;> omega
theorem ind_sub (X : Int → Bool) (v x y : Int) : ind X v (x - y) = ind X v x - ind X v y := by unfold ind; split <;> omega
theorem ind_le {X : Int → Bool} {v x y : Int} (h : x ≤ y) : ind X v x ≤ ind X v y := by unfold ind; split <;> omega
theorem ind_0 (X : Int → Bool) (v : Int) : ind X v 0 = 0 := by unfold ind; split <;> rfl
theorem ind_nn {X : Int → Bool} {v x : Int} (h : 0 ≤ x) : 0 ≤ ind X v x := by unfold ind; split <;> omega
/-- the net flow out of a set -/
def nf (σ : Mem) (b : Nat) (X : Int → Bool) (a : Int) : Int := ind X (σ (0, 2) a) (σ (b + 6, 3) a) - ind X (σ (0, 3) a) (σ (b + 6, 3) a)
def net (σ : Mem) (b : Nat) (X : Int → Bool) : Int := sm (nf σ b X) (σ (0, 1) 0).toNat
/-- the capacity out of a set -/
def co (σ : Mem) (b : Nat) (X : Int → Bool) (a : Int) : Int := if X (σ (0, 2) a) = true ∧ ¬ X (σ (0, 3) a) = true then σ (b + 6, 2) a else 0
def cpo (σ : Mem) (b : Nat) (X : Int → Bool) : Int := sm (co σ b X) (σ (0, 1) 0).toNat
/-- what a set has in excess -/
def sx (σ : Mem) (b : Nat) (X : Int → Bool) : Int := sm (fun v => ind X v (σ (b + 6, 5) v)) (σ (0, 0) 0).toNat
theorem nf_le {σ : Mem} {b : Nat} {X : Int → Bool} {a : Int} (h : 0 ≤ σ (b + 6, 3) a ∧ σ (b + 6, 3) a ≤ σ (b + 6, 2) a) : nf σ b X a ≤ co σ b X a := by
  unfold nf co
  by_cases h1 : X (σ (0, 2) a) = true <;> by_cases h2 : X (σ (0, 3) a) = true
  · rw [ind_t h1, ind_t h2, if_neg (fun h => h.2 h2)]; omega
  · rw [ind_t h1, ind_f h2, if_pos ⟨h1, h2⟩]; omega
  · rw [ind_f h1, ind_t h2, if_neg (fun h => h1 h.1)]; omega
  · rw [ind_f h1, ind_f h2, if_neg (fun h => h1 h.1)]; omega
theorem net_le {σ : Mem} {b : Nat} (hN : NetOk σ) (hF : FlOk σ b) (X : Int → Bool) : net σ b X ≤ cpo σ b X := by
  have := hN.2.1.1
  exact sm_le fun a h1 h2 => nf_le ⟨(hF a h1 (by omega)).1, (hF a h1 (by omega)).2.1⟩
theorem rmF_t {σ : Mem} {b : Nat} {a : Int} : rmF σ b a (σ (0, 2) a) = σ (b + 6, 2) a - σ (b + 6, 3) a := if_pos rfl
theorem rmF_h {σ : Mem} {b : Nat} (hN : NetOk σ) {a : Int} (ha : 0 ≤ a ∧ a < σ (0, 1) 0) : rmF σ b a (σ (0, 3) a) = σ (b + 6, 3) a := if_neg (hN.2.2 a ha.1 ha.2).2.2
theorem clo_net {σ : Mem} {b : Nat} (hN : NetOk σ) (hF : FlOk σ b) {X : Int → Bool} (h : clo σ b X) : net σ b X = cpo σ b X := by
  have hm := hN.2.1.1
  refine sm_cong fun a h1 h2 => ?_
  have ha : 0 ≤ a ∧ a < σ (0, 1) 0 := ⟨h1, by omega⟩
  have hf := hF a ha.1 ha.2
  have hc := h a ha.1 ha.2
  rw [rmF_t, rmF_h hN ha] at hc
  unfold nf co
  by_cases k1 : X (σ (0, 2) a) = true <;> by_cases k2 : X (σ (0, 3) a) = true
  · rw [ind_t k1, ind_t k2, if_neg (fun h => h.2 k2)]; omega
  · rw [ind_t k1, ind_f k2, if_pos ⟨k1, k2⟩]
    by_cases h0 : 0 < σ (b + 6, 2) a - σ (b + 6, 3) a
    · exact absurd (hc.1 k1 h0) k2
    · omega
  · rw [ind_f k1, ind_t k2, if_neg (fun h => k1 h.1)]
    by_cases h0 : 0 < σ (b + 6, 3) a
    · exact absurd (hc.2 k2 h0) k1
    · omega
  · rw [ind_f k1, ind_f k2, if_neg (fun h => k1 h.1)]; omega
theorem net_clo {σ : Mem} {b : Nat} (hN : NetOk σ) (hF : FlOk σ b) {X : Int → Bool} (h : net σ b X = cpo σ b X) : clo σ b X := by
  have hm := hN.2.1.1
  intro a h1 h2
  have ha : 0 ≤ a ∧ a < σ (0, 1) 0 := ⟨h1, by omega⟩
  have hf := hF a ha.1 ha.2
  have he := sm_eq_le (f := nf σ b X) (g := co σ b X) (n := (σ (0, 1) 0).toNat) (fun a h1 h2 => nf_le ⟨(hF a h1 (by omega)).1, (hF a h1 (by omega)).2.1⟩) h a h1 (by omega)
  rw [rmF_t, rmF_h hN ha]
  unfold nf co at he
  by_cases k1 : X (σ (0, 2) a) = true <;> by_cases k2 : X (σ (0, 3) a) = true
  · exact ⟨fun _ _ => k2, fun _ _ => k1⟩
  · rw [ind_t k1, ind_f k2, if_pos ⟨k1, k2⟩] at he
    exact ⟨fun _ h0 => by omega, fun k _ => absurd k k2⟩
  · rw [ind_f k1, ind_t k2, if_neg (fun h => k1 h.1)] at he
    exact ⟨fun k _ => absurd k k1, fun _ h0 => by omega⟩
  · exact ⟨fun k _ => absurd k k1, fun k _ => absurd k k2⟩
theorem co_nn {σ : Mem} {b : Nat} (hN : NetOk σ) (hF : FlOk σ b) (X : Int → Bool) : 0 ≤ cpo σ b X := by
  have hm := hN.2.1.1
  have := sm_le (f := fun _ => 0) (g := co σ b X) (n := (σ (0, 1) 0).toNat) (fun a h1 h2 => by
    have := hF a h1 (by omega)
    show 0 ≤ co σ b X a
    unfold co
    split <;> omega)
  rw [sm_zero] at this
  exact this
/-- closed sets meet and join -/
theorem clo_and {σ : Mem} {b : Nat} {X Y : Int → Bool} (h : clo σ b X) (k : clo σ b Y) : clo σ b (fun v => X v && Y v) := fun a h1 h2 =>
  ⟨fun hx h0 => by rw [Bool.and_eq_true] at hx ⊢; exact ⟨(h a h1 h2).1 hx.1 h0, (k a h1 h2).1 hx.2 h0⟩, fun hx h0 => by rw [Bool.and_eq_true] at hx ⊢; exact ⟨(h a h1 h2).2 hx.1 h0, (k a h1 h2).2 hx.2 h0⟩⟩
theorem clo_or {σ : Mem} {b : Nat} {X Y : Int → Bool} (h : clo σ b X) (k : clo σ b Y) : clo σ b (fun v => X v || Y v) := fun a h1 h2 =>
  ⟨fun hx h0 => by
    rw [Bool.or_eq_true] at hx ⊢
    exact hx.elim (fun q => Or.inl ((h a h1 h2).1 q h0)) (fun q => Or.inr ((k a h1 h2).1 q h0)), fun hx h0 => by
    rw [Bool.or_eq_true] at hx ⊢
    exact hx.elim (fun q => Or.inl ((h a h1 h2).2 q h0)) (fun q => Or.inr ((k a h1 h2).2 q h0))⟩
/-- what is sent over one arc -/
theorem net_send {σ τ : Mem} {b : Nat} {X : Int → Bool} {a x : Int} (ha : 0 ≤ a ∧ a < σ (0, 1) 0) (e1 : τ (0, 1) = σ (0, 1)) (e2 : τ (0, 2) = σ (0, 2)) (e3 : τ (0, 3) = σ (0, 3)) (e4 : ∀ j, τ (b + 6, 3) j = if j = a then σ (b + 6, 3) a + x else σ (b + 6, 3) j) : net τ b X = net σ b X + ind X (σ (0, 2) a) x - ind X (σ (0, 3) a) x := by
  unfold net
  rw [e1]
  have h1 : sm (nf τ b X) (σ (0, 1) 0).toNat = sm (fun j => if j = a then nf σ b X a + ind X (σ (0, 2) a) x - ind X (σ (0, 3) a) x else nf σ b X j) (σ (0, 1) 0).toNat := by
    refine sm_cong fun j h1 h2 => ?_
    unfold nf
    rw [e2, e3, e4 j]
    by_cases h : j = a
    · subst h
      rw [if_pos rfl, if_pos rfl, ind_add, ind_add]; omega
    · rw [if_neg h, if_neg h]
  rw [h1, sm_upd (nf σ b X) ha.1 (by omega)]
  omega
theorem sx_upd {σ τ : Mem} {b : Nat} {X : Int → Bool} {v x : Int} (hv : 0 ≤ v ∧ v < σ (0, 0) 0) (e0 : τ (0, 0) = σ (0, 0)) (e : ∀ j, τ (b + 6, 5) j = if j = v then σ (b + 6, 5) v + x else σ (b + 6, 5) j) : sx τ b X = sx σ b X + ind X v x := by
  unfold sx
  rw [e0]
  have h1 : sm (fun j => ind X j (τ (b + 6, 5) j)) (σ (0, 0) 0).toNat = sm (fun j => if j = v then ind X v (σ (b + 6, 5) v) + ind X v x else ind X j (σ (b + 6, 5) j)) (σ (0, 0) 0).toNat := by
    refine sm_cong fun j h1 h2 => ?_
    show ind X j (τ (b + 6, 5) j) = _
    rw [e j]
    by_cases h : j = v
    · subst h
      rw [if_pos rfl, if_pos rfl, ind_add]
    · rw [if_neg h, if_neg h]
  rw [h1, sm_upd (fun j => ind X j (σ (b + 6, 5) j)) hv.1 (by omega)]
  omega
theorem net_all {σ : Mem} {b : Nat} : net σ b (fun _ => true) = 0 := by
  unfold net
  rw [sm_cong (g := fun _ => 0) (fun a _ _ => by unfold nf; rw [ind_t rfl, ind_t rfl]; omega), sm_zero]
theorem net_same {σ τ : Mem} {b : Nat} {X : Int → Bool} (e1 : τ (0, 1) = σ (0, 1)) (e2 : τ (0, 2) = σ (0, 2)) (e3 : τ (0, 3) = σ (0, 3)) (e4 : τ (b + 6, 3) = σ (b + 6, 3)) : net τ b X = net σ b X := by
  unfold net nf
  rw [e1, e2, e3, e4]
theorem cpo_same {σ τ : Mem} {b : Nat} {X : Int → Bool} (e1 : τ (0, 1) = σ (0, 1)) (e2 : τ (0, 2) = σ (0, 2)) (e3 : τ (0, 3) = σ (0, 3)) (e4 : τ (b + 6, 2) = σ (b + 6, 2)) : cpo τ b X = cpo σ b X := by
  unfold cpo co
  rw [e1, e2, e3, e4]
theorem sx_same {σ τ : Mem} {b : Nat} {X : Int → Bool} (e1 : τ (0, 0) = σ (0, 0)) (e4 : τ (b + 6, 5) = σ (b + 6, 5)) : sx τ b X = sx σ b X := by
  unfold sx
  rw [e1, e4]
theorem clo_same {σ τ : Mem} {b : Nat} {X : Int → Bool} (e1 : τ (0, 1) = σ (0, 1)) (e2 : τ (0, 2) = σ (0, 2)) (e3 : τ (0, 3) = σ (0, 3)) (e4 : τ (b + 6, 2) = σ (b + 6, 2)) (e5 : τ (b + 6, 3) = σ (b + 6, 3)) (h : clo σ b X) : clo τ b X := by
  unfold clo stp rmF at h ⊢
  rw [e1, e2, e3, e4, e5]
  exact h
theorem sm_pos {f : Int → Int} {n : Nat} (h : ∀ a : Int, 0 ≤ a → a < n → 0 ≤ f a) {i : Int} (hi : 0 ≤ i ∧ i < n) : f i ≤ sm f n := by
  have h1 := sm_upd f (i := i) (x := 0) hi.1 hi.2
  have h2 := sm_le (f := fun _ => 0) (g := fun a => if a = i then 0 else f a) (n := n) (fun a h3 h4 => by
    show 0 ≤ if a = i then 0 else f a
    split
    · omega
    · exact h a h3 h4)
  rw [sm_zero] at h2
  omega
theorem sm_nn {f : Int → Int} {n : Nat} (h : ∀ a : Int, 0 ≤ a → a < n → 0 ≤ f a) : 0 ≤ sm f n := by
  have h2 := sm_le (f := fun _ => 0) (g := f) (n := n) h
  rw [sm_zero] at h2
  exact h2
