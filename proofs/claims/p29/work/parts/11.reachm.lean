/-! WHAT CAN BE REACHED: the mathematics -/
theorem ite0 {c : Prop} [Decidable c] (h : (if c then (1 : Int) else 0) = 0) : ¬ c := fun hc => by rw [if_pos hc] at h; exact absurd h (by decide)
theorem ite1 {c : Prop} [Decidable c] (h : ¬ (if c then (1 : Int) else 0) = 0) : c := Decidable.byContradiction fun hc => h (if_neg hc)
theorem ite01 {c : Prop} [Decidable c] : rg (if c then (1 : Int) else 0) := by split <;> exact ⟨by decide, by decide⟩
def inS (X Y : Int → Bool) : Prop := ∀ v, 0 ≤ v → X v = true → Y v = true
theorem inS.rf {X : Int → Bool} : inS X X := fun _ _ h => h
theorem inS.tr {X Y Z : Int → Bool} (h : inS X Y) (k : inS Y Z) : inS X Z := fun v hv hx => k v hv (h v hv hx)
/-- over the arcs below k, what has room leads from X into Y -/
def stp (σ : Mem) (b : Nat) (X Y : Int → Bool) (k : Int) : Prop := ∀ a, 0 ≤ a → a < k → (X (σ (0, 2) a) = true → 0 < rmF σ b a (σ (0, 2) a) → Y (σ (0, 3) a) = true) ∧ (X (σ (0, 3) a) = true → 0 < rmF σ b a (σ (0, 3) a) → Y (σ (0, 2) a) = true)
def clo (σ : Mem) (b : Nat) (X : Int → Bool) : Prop := stp σ b X X (σ (0, 1) 0)
def mk24 (w : Int) : Prop := 0 ≤ w ∧ w < 16777216
def wnI (σ : Mem) (b : Nat) (q w i : Int) : Prop := mk24 w ∧ inS (bt q) (bt w) ∧ (∀ X, clo σ b X → inS (bt q) X → inS (bt w) X) ∧ stp σ b (bt q) (bt w) i
/-- a half of a step: over one arc, from one of its ends -/
def hlf (σ : Mem) (b : Nat) (i w w1 x y : Int) : Prop := mk24 w1 ∧ inS (bt w) (bt w1) ∧ (∀ X, clo σ b X → inS (bt w) X → inS (bt w1) X) ∧ (bt w x = true → 0 < rmF σ b i x → bt w1 y = true)
theorem hlf_no {σ : Mem} {b : Nat} {i w x y : Int} (hw : mk24 w) (h : bt w x = true → 0 < rmF σ b i x → False) : hlf σ b i w w x y := ⟨hw, inS.rf, fun _ _ h => h, fun h1 h2 => (h h1 h2).elim⟩
theorem hlf_yes {σ : Mem} {b : Nat} {i w x y : Int} (hw : mk24 w) (hy : 0 ≤ y ∧ y < 24) (hx : 0 ≤ x) (h1 : bt w x = true) (hc : ∀ X : Int → Bool, clo σ b X → X x = true → X y = true) : hlf σ b i w (oI w (pI y)) x y := by
  refine ⟨oI_lt hw.2 (pI_rg hy.2).2, fun v _ h => by rw [bt_o, h]; rfl, fun X hX hS v hv h => ?_, fun _ _ => by rw [bt_o, bt_p hy.1 hy.1]; simp⟩
  rw [bt_o, Bool.or_eq_true] at h
  rcases h with h | h
  · exact hS v hv h
  · rw [bt_p hy.1 hv] at h
    have : y = v := of_decide_eq_true h
    subst this
    exact hc X hX (hS x hx h1)
theorem wnI_step {σ : Mem} {b : Nat} {q w w1 w2 i : Int} (hN : NetOk σ) (hi : 0 ≤ i ∧ i < σ (0, 1) 0) (h : wnI σ b q w i) (h1 : hlf σ b i w w1 (σ (0, 2) i) (σ (0, 3) i)) (h2 : hlf σ b i w1 w2 (σ (0, 3) i) (σ (0, 2) i)) : wnI σ b q w2 (i + 1) := by
  obtain ⟨-, a2, a3, a4⟩ := h
  obtain ⟨-, b2, b3, b4⟩ := h1
  obtain ⟨c1, c2, c3, c4⟩ := h2
  refine ⟨c1, (a2.tr b2).tr c2, fun X hX hS => c3 X hX (b3 X hX (a3 X hX hS)), fun a ha hk => ?_⟩
  obtain ⟨⟨t1, -⟩, ⟨t2, -⟩, -⟩ := hN.2.2 a ha (by omega)
  by_cases e : a = i
  · subst e
    exact ⟨fun k1 k2 => c2 _ t2 (b4 (a2 _ t1 k1) k2), fun k1 k2 => c4 (b2 _ t2 (a2 _ t2 k1)) k2⟩
  · have hlt : a < i := by omega
    exact ⟨fun k1 k2 => (b2.tr c2) _ t2 ((a4 a ha hlt).1 k1 k2), fun k1 k2 => (b2.tr c2) _ t1 ((a4 a ha hlt).2 k1 k2)⟩
theorem wnI_0 {σ : Mem} {b : Nat} {q : Int} (hq : mk24 q) : wnI σ b q q 0 := ⟨hq, inS.rf, fun _ _ h => h, fun a h1 h2 => by omega⟩
theorem clo_tl {σ : Mem} {b : Nat} {i : Int} (hi : 0 ≤ i ∧ i < σ (0, 1) 0) (hr : 0 < rmF σ b i (σ (0, 2) i)) : ∀ X : Int → Bool, clo σ b X → X (σ (0, 2) i) = true → X (σ (0, 3) i) = true := fun _ hX hx => (hX i hi.1 hi.2).1 hx hr
theorem clo_hd {σ : Mem} {b : Nat} {i : Int} (hi : 0 ≤ i ∧ i < σ (0, 1) 0) (hr : 0 < rmF σ b i (σ (0, 3) i)) : ∀ X : Int → Bool, clo σ b X → X (σ (0, 3) i) = true → X (σ (0, 2) i) = true := fun _ hX hx => (hX i hi.1 hi.2).2 hx hr
/-- the answer of one round -/
def wnP (σ : Mem) (b : Nat) (q z : Int) : Prop := mk24 z ∧ inS (bt q) (bt z) ∧ (∀ X, clo σ b X → inS (bt q) X → inS (bt z) X) ∧ (z = q → clo σ b (bt z))
theorem wnI_end {σ : Mem} {b : Nat} {q w i : Int} (h : wnI σ b q w i) (hi : σ (0, 1) 0 ≤ i) : wnP σ b q w := ⟨h.1, h.2.1, h.2.2.1, fun e => by
  subst e
  exact fun a h1 h2 => h.2.2.2 a h1 (by omega)⟩
/-- how many nodes a mask has -/
def ctB (p : Int → Bool) : Nat → Nat
  | 0 => 0
  | n + 1 => ctB p n + (if p (n : Int) = true then 1 else 0)
theorem ctB_le (p : Int → Bool) : ∀ n, ctB p n ≤ n
  | 0 => Nat.le_refl 0
  | n + 1 => by
    have := ctB_le p n
    unfold ctB
    split <;> omega
theorem ctB_mono {p q : Int → Bool} (h : inS p q) : ∀ n, ctB p n ≤ ctB q n
  | 0 => Nat.le_refl 0
  | n + 1 => by
    have := ctB_mono h n
    unfold ctB
    by_cases h1 : p (n : Int) = true
    · rw [if_pos h1, if_pos (h _ (by omega) h1)]; omega
    · rw [if_neg h1]; omega
theorem ctB_lt {p q : Int → Bool} (h : inS p q) {v : Nat} (h1 : q (v : Int) = true) (h2 : ¬ p (v : Int) = true) : ∀ n, v < n → ctB p n < ctB q n
  | 0, hv => absurd hv (Nat.not_lt_zero v)
  | n + 1, hv => by
    unfold ctB
    by_cases e : v = n
    · subst e
      rw [if_pos h1, if_neg h2]
      have := ctB_mono h v
      omega
    · have := ctB_lt h h1 h2 n (by omega)
      by_cases h3 : p (n : Int) = true
      · rw [if_pos h3, if_pos (h _ (by omega) h3)]; omega
      · rw [if_neg h3]; omega
theorem ctB_below {p : Int → Bool} {k : Nat} (h : ∀ v : Nat, k ≤ v → ¬ p (v : Int) = true) : ∀ n, ctB p n ≤ k
  | 0 => Nat.zero_le k
  | n + 1 => by
    by_cases hk : n + 1 ≤ k
    · exact Nat.le_trans (ctB_le p (n + 1)) hk
    · unfold ctB
      rw [if_neg (h n (by omega))]
      exact ctB_below h n
theorem ctB_one {p : Int → Bool} {v : Nat} (h : p (v : Int) = true) {n : Nat} (hv : v < n) : 1 ≤ ctB p n := by
  have h0 : ∀ n, ctB (fun _ => false) n = 0 := fun n => by
    induction n with
    | zero => rfl
    | succ n ih => unfold ctB; rw [ih]; rfl
  have := ctB_lt (p := fun _ => false) (q := p) (fun _ _ h => by cases h) h (by simp) n hv
  rw [h0] at this
  omega
/-- the answer: the least closed set with the start -/
def rcP (σ : Mem) (b : Nat) (x z : Int) : Prop := mk24 z ∧ bt z x = true ∧ clo σ b (bt z) ∧ ∀ X, clo σ b X → X x = true → inS (bt z) X
def rcI (σ : Mem) (b : Nat) (x q f k : Int) : Prop := mk24 q ∧ mk24 f ∧ bt q x = true ∧ (∀ X, clo σ b X → X x = true → inS (bt q) X) ∧ (q = f → clo σ b (bt q)) ∧ (q ≠ f → k + 1 ≤ ctB (bt q) 24) ∧ 0 ≤ k ∧ k ≤ σ (0, 0) 0
theorem clo_nodes {σ : Mem} {b : Nat} (hN : NetOk σ) : clo σ b (fun v => decide (v < σ (0, 0) 0)) := fun a h1 h2 => by
  obtain ⟨⟨-, t1⟩, ⟨-, t2⟩, -⟩ := hN.2.2 a h1 h2
  exact ⟨fun _ _ => decide_eq_true t2, fun _ _ => decide_eq_true t1⟩
theorem rcI_0 {σ : Mem} {b : Nat} {x : Int} (hN : NetOk σ) (hx : 0 ≤ x ∧ x < σ (0, 0) 0) : rcI σ b x (pI x) 0 0 := by
  have hn := hN.1
  have h1 : bt (pI x) x = true := by rw [bt_p hx.1 hx.1]; simp
  refine ⟨pI_rg (by omega), ⟨by decide, by decide⟩, h1, fun X _ hX v hv h => ?_, fun e => ?_, fun _ => ?_, by omega, by omega⟩
  · rw [bt_p hx.1 hv] at h
    have : x = v := of_decide_eq_true h
    rw [← this]; exact hX
  · rw [e] at h1
    exact absurd h1 (by unfold bt; simp)
  · have := ctB_one (p := bt (pI x)) (v := x.toNat) (by rw [Int.toNat_of_nonneg hx.1]; exact h1) (n := 24) (by omega)
    omega
theorem rcI_step {σ : Mem} {b : Nat} {x q f k z : Int} (h : rcI σ b x q f k) (hqf : q ≠ f) (hk : k < σ (0, 0) 0) (hz : wnP σ b q z) : rcI σ b x z q (k + 1) := by
  obtain ⟨a1, a2, a3, a4, a5, a6, a7, a8⟩ := h
  obtain ⟨b1, b2, b3, b4⟩ := hz
  have hx0 : ∀ X, clo σ b X → X x = true → inS (bt z) X := fun X hX hx => b3 X hX (a4 X hX hx)
  refine ⟨b1, a1, ?_, hx0, b4, fun hne => ?_, by omega, by omega⟩
  · by_cases hxx : 0 ≤ x
    · exact b2 x hxx a3
    · have hx' : x.toNat = 0 := by omega
      have h3 : bt q 0 = true := by unfold bt at a3 ⊢; rw [hx'] at a3; exact a3
      have h4 := b2 0 (by omega) h3
      unfold bt at h4 ⊢; rw [hx']; exact h4
  · have h6 := a6 hqf
    have : ∃ v : Nat, v < 24 ∧ bt z (v : Int) = true ∧ ¬ bt q (v : Int) = true := by
      apply Classical.byContradiction
      intro hno
      apply hne
      refine bt_ext b1.1 a1.1 (fun v hv => ?_)
      by_cases hv24 : v < 24
      · by_cases h1 : bt q v = true
        · rw [h1, b2 v hv h1]
        · by_cases h2 : bt z v = true
          · exact (hno ⟨v.toNat, by omega, by rw [Int.toNat_of_nonneg hv]; exact h2, by rw [Int.toNat_of_nonneg hv]; exact h1⟩).elim
          · rw [Bool.eq_false_iff.mpr h1, Bool.eq_false_iff.mpr h2]
      · rw [bt_big b1.2 (by omega), bt_big a1.2 (by omega)]
    obtain ⟨v, h1, h2, h3⟩ := this
    have := ctB_lt b2 h2 h3 24 h1
    omega
theorem rcI_end {σ : Mem} {b : Nat} {x q f k : Int} (hN : NetOk σ) (hx : 0 ≤ x ∧ x < σ (0, 0) 0) (h : rcI σ b x q f k) (he : q = f ∨ σ (0, 0) 0 ≤ k) : rcP σ b x q := by
  obtain ⟨a1, a2, a3, a4, a5, a6, a7, a8⟩ := h
  refine ⟨a1, a3, ?_, a4⟩
  by_cases e : q = f
  · exact a5 e
  · exfalso
    have h6 := a6 e
    have hin := a4 _ (clo_nodes hN) (decide_eq_true hx.2)
    have := ctB_below (p := bt q) (k := (σ (0, 0) 0).toNat) (fun v hv h1 => by
      have := of_decide_eq_true (hin (v : Int) (by omega) h1)
      omega) 24
    rcases he with he | he
    · exact e he
    · omega
/-- least closed sets are one -/
theorem rcP_one {σ : Mem} {b : Nat} {x z y : Int} (h : rcP σ b x z) (k : rcP σ b x y) : z = y := bt_ext h.1.1 k.1.1 fun v hv => by
  by_cases h1 : bt z v = true
  · rw [h1, h.2.2.2 _ k.2.2.1 k.2.1 v hv h1]
  · by_cases h2 : bt y v = true
    · exact absurd (k.2.2.2 _ h.2.2.1 h.2.1 v hv h2) h1
    · rw [Bool.eq_false_iff.mpr h1, Bool.eq_false_iff.mpr h2]
theorem rcP_nodes {σ : Mem} {b : Nat} {x z : Int} (hN : NetOk σ) (hx : x < σ (0, 0) 0) (h : rcP σ b x z) {v : Int} (hv : 0 ≤ v) (h1 : bt z v = true) : v < σ (0, 0) 0 := of_decide_eq_true (h.2.2.2 _ (clo_nodes hN) (decide_eq_true hx) v hv h1)
/-- sums over the first places -/
def sm (f : Int → Int) : Nat → Int
  | 0 => 0
  | n + 1 => sm f n + f (n : Int)
theorem sm_cong {f g : Int → Int} : ∀ {n : Nat}, (∀ a : Int, 0 ≤ a → a < n → f a = g a) → sm f n = sm g n
  | 0, _ => rfl
  | n + 1, h => by
    unfold sm
    rw [sm_cong (n := n) (fun a h1 h2 => h a h1 (by omega)), h (n : Int) (by omega) (by omega)]
theorem sm_add (f g : Int → Int) : ∀ n, sm (fun a => f a + g a) n = sm f n + sm g n
  | 0 => rfl
  | n + 1 => by
    have := sm_add f g n
    unfold sm
    omega
theorem sm_sub (f g : Int → Int) : ∀ n, sm (fun a => f a - g a) n = sm f n - sm g n
  | 0 => rfl
  | n + 1 => by
    have := sm_sub f g n
    unfold sm
    omega
theorem sm_le {f g : Int → Int} : ∀ {n : Nat}, (∀ a : Int, 0 ≤ a → a < n → f a ≤ g a) → sm f n ≤ sm g n
  | 0, _ => Int.le_refl 0
  | n + 1, h => by
    have h1 := sm_le (n := n) (fun a h1 h2 => h a h1 (by omega))
    have h2 := h (n : Int) (by omega) (by omega)
    unfold sm
    omega
theorem sm_zero : ∀ n, sm (fun _ => 0) n = 0
  | 0 => rfl
  | n + 1 => by unfold sm; rw [sm_zero n]; rfl
theorem sm_const (c : Int) : ∀ n : Nat, sm (fun _ => c) n = n * c
  | 0 => by simp [sm]
  | n + 1 => by
    unfold sm
    rw [sm_const c n, Int.natCast_succ, Int.add_mul, Int.one_mul]
theorem sm_upd (f : Int → Int) {i x : Int} (hi : 0 ≤ i) : ∀ {n : Nat}, i < n → sm (fun a => if a = i then x else f a) n = sm f n - f i + x
  | 0, h => by omega
  | n + 1, h => by
    unfold sm
    by_cases e : i = (n : Int)
    · subst e
      rw [if_pos rfl, sm_cong (g := f) (fun a h1 h2 => if_neg (by omega))]
      omega
    · rw [sm_upd f hi (n := n) (by omega), if_neg (by omega)]
      omega
theorem sm_upd_out (f : Int → Int) {i x : Int} {n : Nat} (h : (n : Int) ≤ i ∨ i < 0) : sm (fun a => if a = i then x else f a) n = sm f n := sm_cong fun a h1 h2 => if_neg (by omega)
theorem sm_succ {f : Int → Int} {i : Int} (hi : 0 ≤ i) : sm f (i + 1).toNat = sm f i.toNat + f i := by
  have : (i + 1).toNat = i.toNat + 1 := by omega
  rw [this]
  show sm f i.toNat + f (i.toNat : Int) = _
  rw [Int.toNat_of_nonneg hi]
theorem sm_eq_le {f g : Int → Int} : ∀ {n : Nat}, (∀ a : Int, 0 ≤ a → a < n → f a ≤ g a) → sm f n = sm g n → ∀ a : Int, 0 ≤ a → a < n → f a = g a
  | 0, _, _, a, h1, h2 => by omega
  | n + 1, h, he, a, h1, h2 => by
    have h3 := sm_le (n := n) (fun a h1 h2 => h a h1 (by omega))
    have h4 := h (n : Int) (by omega) (by omega)
    unfold sm at he
    by_cases e : a = (n : Int)
    · subst e; omega
    · exact sm_eq_le (n := n) (fun a h1 h2 => h a h1 (by omega)) (by omega) a h1 (by omega)
