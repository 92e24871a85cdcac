theorem fb_holes : ∀ (m n : Nat) (f : Nat → Nat), (∀ i, i < n → f i < m) → (∀ i j, i < j → j < n → f i ≠ f j) → n ≤ m := by
  intro m
  induction m with
  | zero =>
    intro n f h1 _
    rcases Nat.eq_zero_or_pos n with h | h
    · omega
    · exact absurd (h1 0 h) (Nat.not_lt_zero _)
  | succ m ih =>
    intro n f h1 h2
    by_cases hx : ∃ i, i < n ∧ f i = m
    · obtain ⟨a, ha, hfa⟩ := hx
      have hg := ih (n - 1) (fun i => if i < a then f i else f (i + 1)) (by
        intro i hi
        by_cases q : i < a
        · simp only [if_pos q]
          have b1 := h1 i (by omega)
          have b2 := h2 i a q ha
          omega
        · simp only [if_neg q]
          have b1 := h1 (i + 1) (by omega)
          have b2 := h2 a (i + 1) (by omega) (by omega)
          omega) (by
        intro i j hij hj
        by_cases q : i < a
        · by_cases r : j < a
          · simp only [if_pos q, if_pos r]
            exact h2 i j hij (by omega)
          · simp only [if_pos q, if_neg r]
            exact h2 i (j + 1) (by omega) (by omega)
        · have r : ¬ j < a := by omega
          simp only [if_neg q, if_neg r]
          exact h2 (i + 1) (j + 1) (by omega) (by omega))
      omega
    · have hg := ih n f (fun i hi => by
        have b1 := h1 i hi
        have b2 : f i ≠ m := fun e => hx ⟨i, hi, e⟩
        omega) h2
      omega
/-! PREFLOWS: pushing and relabeling, the mathematics -/
/-- of n + 1 different heights, one is no node's -/
theorem pig {h : Int → Int} {n : Nat} {c : Nat → Int} (hc : ∀ i j : Nat, i < j → j < n + 1 → c i ≠ c j) : ∃ i : Nat, i < n + 1 ∧ ∀ v : Int, 0 ≤ v → v < n → h v ≠ c i := by
  apply Classical.byContradiction
  intro hno
  have hex : ∀ i : Nat, ∃ w : Nat, i < n + 1 → w < n ∧ h (w : Int) = c i := by
    intro i
    by_cases hi : i < n + 1
    · apply Classical.byContradiction
      intro h1
      apply hno
      refine ⟨i, hi, fun v h2 h3 h4 => h1 ⟨v.toNat, fun _ => ⟨by omega, ?_⟩⟩⟩
      rw [Int.toNat_of_nonneg h2]
      exact h4
    · exact ⟨0, fun h => absurd h hi⟩
  have hf : ∀ i, i < n + 1 → Classical.choose (hex i) < n ∧ h ((Classical.choose (hex i) : Nat) : Int) = c i := fun i hi => Classical.choose_spec (hex i) hi
  have := fb_holes n (n + 1) (fun i => Classical.choose (hex i)) (fun i hi => (hf i hi).1) (fun i j hij hj e => by
    apply hc i j hij hj
    rw [← (hf i (by omega)).2, ← (hf j hj).2]
    have e : Classical.choose (hex i) = Classical.choose (hex j) := e
    rw [e])
  omega
def VL (σ : Mem) (b : Nat) : Prop := ∀ a, 0 ≤ a → a < σ (0, 1) 0 → (0 < σ (b + 6, 2) a - σ (b + 6, 3) a → σ (b + 6, 6) (σ (0, 2) a) ≤ σ (b + 6, 6) (σ (0, 3) a) + 1) ∧ (0 < σ (b + 6, 3) a → σ (b + 6, 6) (σ (0, 3) a) ≤ σ (b + 6, 6) (σ (0, 2) a) + 1)
theorem gap_clo {σ : Mem} {b : Nat} {k : Int} (hN : NetOk σ) (hV : VL σ b) (hk : ∀ v : Int, 0 ≤ v → v < σ (0, 0) 0 → σ (b + 6, 6) v ≠ k) : clo σ b (fun v => decide (k < σ (b + 6, 6) v)) := by
  intro a h1 h2
  have ha : 0 ≤ a ∧ a < σ (0, 1) 0 := ⟨h1, h2⟩
  obtain ⟨⟨t1, t2⟩, ⟨t3, t4⟩, -⟩ := hN.2.2 a h1 h2
  have hv := hV a h1 h2
  have k1 := hk _ t1 t2
  have k2 := hk _ t3 t4
  rw [rmF_t, rmF_h hN ha]
  constructor
  · intro hx h0
    have hx := of_decide_eq_true hx
    have := hv.1 h0
    exact decide_eq_true (by omega)
  · intro hx h0
    have hx := of_decide_eq_true hx
    have := hv.2 h0
    exact decide_eq_true (by omega)
/-- the state of the router at work: what flows, plus what is in excess, is what flowed, plus what was given to the start -/
def pfI (σ : Mem) (b : Nat) (N0 : (Int → Bool) → Int) (s t B : Int) : Prop :=
  (NetOk σ ∧ AdjOk σ ∧ FlOk σ b) ∧ (∀ X, net σ b X + sx σ b X = N0 X + ind X s B) ∧ (∀ X, N0 X ≤ cpo σ b X) ∧ N0 (fun _ => true) = 0 ∧
  (∀ v, 0 ≤ v → v < σ (0, 0) 0 → 0 ≤ σ (b + 6, 5) v) ∧ VL σ b ∧ σ (b + 6, 6) t = 0 ∧ σ (b + 6, 6) s ≤ σ (0, 0) 0 ∧
  (∀ v, 0 ≤ v → v < σ (0, 0) 0 → 0 ≤ σ (b + 6, 6) v ∧ σ (b + 6, 6) v ≤ 2 * σ (0, 0) 0 - 1) ∧
  (σ (b + 6, 11) 0 = s ∧ σ (b + 6, 12) 0 = t) ∧ (0 ≤ s ∧ s < σ (0, 0) 0) ∧ (0 ≤ t ∧ t < σ (0, 0) 0) ∧ s ≠ t ∧ 0 ≤ B ∧ B ≤ 100000000
theorem pf_exc {σ : Mem} {b : Nat} {N0 : (Int → Bool) → Int} {s t B : Int} (h : pfI σ b N0 s t B) {v : Int} (hv : 0 ≤ v ∧ v < σ (0, 0) 0) : 0 ≤ σ (b + 6, 5) v ∧ σ (b + 6, 5) v ≤ B := by
  obtain ⟨⟨hN, hA, hF⟩, hb, hc, h0, he, -⟩ := h
  refine ⟨he v hv.1 hv.2, ?_⟩
  have h1 := hb (fun _ => true)
  rw [net_all, h0, ind_t rfl] at h1
  have h2 := sm_pos (f := fun v => ind (fun _ => true) v (σ (b + 6, 5) v)) (n := (σ (0, 0) 0).toNat) (fun a h1 h2 => by
    show 0 ≤ ind _ a _
    rw [ind_t rfl]
    exact he a h1 (by omega)) (i := v) ⟨hv.1, by omega⟩
  have h3 : ind (fun _ => true) v (σ (b + 6, 5) v) ≤ sx σ b (fun _ => true) := h2
  rw [ind_t rfl] at h3
  omega
/-- a node with excess is below twice the number of nodes -/
theorem pf_high {σ : Mem} {b : Nat} {N0 : (Int → Bool) → Int} {s t B : Int} (hN : NetOk σ) (hF : FlOk σ b) (hb : ∀ X, net σ b X + sx σ b X = N0 X + ind X s B) (hc : ∀ X, N0 X ≤ cpo σ b X) (he : ∀ v, 0 ≤ v → v < σ (0, 0) 0 → 0 ≤ σ (b + 6, 5) v) (hV : VL σ b) (ht : σ (b + 6, 6) t = 0) (hs : σ (b + 6, 6) s ≤ σ (0, 0) 0) (htn : 0 ≤ t ∧ t < σ (0, 0) 0) {v : Int} (hv : 0 ≤ v ∧ v < σ (0, 0) 0) (h0 : 0 < σ (b + 6, 5) v) : σ (b + 6, 6) v ≤ 2 * σ (0, 0) 0 - 1 := by
  apply Classical.byContradiction
  intro hno
  obtain ⟨i, hi, hk⟩ := pig (h := σ (b + 6, 6)) (n := (σ (0, 0) 0).toNat) (c := fun i => if i = 0 then 0 else σ (0, 0) 0 + (i : Int) - 1) (fun i j hij hj => by
    show (if i = 0 then (0 : Int) else σ (0, 0) 0 + (i : Int) - 1) ≠ (if j = 0 then (0 : Int) else σ (0, 0) 0 + (j : Int) - 1)
    split <;> split <;> omega)
  have hi0 : i ≠ 0 := by
    intro e
    subst e
    exact hk t htn.1 (by omega) (by rw [ht]; rfl)
  have hk' : ∀ w : Int, 0 ≤ w → w < σ (0, 0) 0 → σ (b + 6, 6) w ≠ σ (0, 0) 0 + (i : Int) - 1 := fun w h1 h2 => by
    have := hk w h1 (by omega)
    rw [if_neg hi0] at this
    exact this
  have hX := gap_clo hN hV hk'
  have h1 := clo_net hN hF hX
  have h2 := hb (fun v => decide (σ (0, 0) 0 + (i : Int) - 1 < σ (b + 6, 6) v))
  have h3 := hc (fun v => decide (σ (0, 0) 0 + (i : Int) - 1 < σ (b + 6, 6) v))
  rw [ind_f (v := s) (by intro q; have := of_decide_eq_true q; omega)] at h2
  have h4 := sm_pos (f := fun w => ind (fun v => decide (σ (0, 0) 0 + (i : Int) - 1 < σ (b + 6, 6) v)) w (σ (b + 6, 5) w)) (n := (σ (0, 0) 0).toNat) (fun a h1 h2 => ind_nn (he a h1 (by omega))) (i := v) ⟨hv.1, by omega⟩
  have h5 : ind (fun v => decide (σ (0, 0) 0 + (i : Int) - 1 < σ (b + 6, 6) v)) v (σ (b + 6, 5) v) ≤ sx σ b (fun v => decide (σ (0, 0) 0 + (i : Int) - 1 < σ (b + 6, 6) v)) := h4
  rw [ind_t (v := v) (by exact decide_eq_true (by omega))] at h5
  omega
/-! a push over one arc -/
theorem otF_t {σ : Mem} {a : Int} : otF σ a (σ (0, 2) a) = σ (0, 3) a := if_pos rfl
theorem otF_h {σ : Mem} (hN : NetOk σ) {a : Int} (ha : 0 ≤ a ∧ a < σ (0, 1) 0) : otF σ a (σ (0, 3) a) = σ (0, 2) a := if_neg (hN.2.2 a ha.1 ha.2).2.2
theorem sx_two {σ τ : Mem} {b : Nat} {X : Int → Bool} {u w x : Int} (hu : 0 ≤ u ∧ u < σ (0, 0) 0) (hw : 0 ≤ w ∧ w < σ (0, 0) 0) (huw : u ≠ w) (e0 : τ (0, 0) = σ (0, 0)) (e : ∀ j, τ (b + 6, 5) j = if j = w then σ (b + 6, 5) w + x else if j = u then σ (b + 6, 5) u - x else σ (b + 6, 5) j) : sx τ b X = sx σ b X + ind X w x - ind X u x := by
  unfold sx
  rw [e0]
  have h1 : sm (fun j => ind X j (τ (b + 6, 5) j)) (σ (0, 0) 0).toNat = sm (fun j => if j = w then ind X w (σ (b + 6, 5) w) + ind X w x else if j = u then ind X u (σ (b + 6, 5) u) - ind X u x else ind X j (σ (b + 6, 5) j)) (σ (0, 0) 0).toNat := by
    refine sm_cong fun j h1 h2 => ?_
    show ind X j (τ (b + 6, 5) j) = _
    rw [e j]
    by_cases h : j = w
    · subst h
      rw [if_pos rfl, if_pos rfl, ind_add]
    · rw [if_neg h, if_neg h]
      by_cases h' : j = u
      · subst h'
        rw [if_pos rfl, if_pos rfl, ind_sub]
      · rw [if_neg h', if_neg h']
  rw [h1, sm_upd (fun j => if j = u then ind X u (σ (b + 6, 5) u) - ind X u x else ind X j (σ (b + 6, 5) j)) hw.1 (by omega), sm_upd (fun j => ind X j (σ (b + 6, 5) j)) hu.1 (by omega), if_neg (Ne.symm huw)]
  omega
/-- what a push from u over the arc a makes of the memory -/
def psP (σ τ : Mem) (b : Nat) (a u x : Int) : Prop := Fr b [3, 5] σ τ ∧ (∀ j, τ (b + 6, 3) j = if j = a then σ (b + 6, 3) a + (if σ (0, 2) a = u then x else -x) else σ (b + 6, 3) j) ∧ ∀ j, τ (b + 6, 5) j = if j = otF σ a u then σ (b + 6, 5) (otF σ a u) + x else if j = u then σ (b + 6, 5) u - x else σ (b + 6, 5) j
theorem ends {σ : Mem} (hN : NetOk σ) {a u : Int} (ha : 0 ≤ a ∧ a < σ (0, 1) 0) (hu : σ (0, 2) a = u ∨ σ (0, 3) a = u) : (0 ≤ u ∧ u < σ (0, 0) 0) ∧ (0 ≤ otF σ a u ∧ otF σ a u < σ (0, 0) 0) ∧ u ≠ otF σ a u := by
  obtain ⟨t1, t2, t3⟩ := hN.2.2 a ha.1 ha.2
  rcases hu with rfl | rfl
  · rw [otF_t]; exact ⟨t1, t2, t3⟩
  · rw [otF_h hN ha]; exact ⟨t2, t1, Ne.symm t3⟩
theorem ps_rm {σ τ : Mem} {b : Nat} {a u x : Int} (hN : NetOk σ) (ha : 0 ≤ a ∧ a < σ (0, 1) 0) (hu : σ (0, 2) a = u ∨ σ (0, 3) a = u) (h : psP σ τ b a u x) (c : Int) (hc : σ (0, 2) c = u ∨ σ (0, 3) c = u) (hc2 : 0 ≤ c ∧ c < σ (0, 1) 0) : rmF τ b c u = if c = a then rmF σ b a u - x else rmF σ b c u := by
  obtain ⟨hf, h3, -⟩ := h
  unfold rmF
  rw [hf.of 0 2, hf.own 2, h3 c]
  by_cases e : c = a
  · subst e
    rw [if_pos rfl, if_pos rfl]
    split
    · omega
    · omega
  · rw [if_neg e, if_neg e]
theorem pf_push {σ τ : Mem} {b : Nat} {N0 : (Int → Bool) → Int} {s t B a u x : Int} (h : pfI σ b N0 s t B) (ha : 0 ≤ a ∧ a < σ (0, 1) 0) (hu : σ (0, 2) a = u ∨ σ (0, 3) a = u) (hx : 0 ≤ x ∧ x ≤ σ (b + 6, 5) u ∧ x ≤ rmF σ b a u) (hh : σ (b + 6, 6) u = σ (b + 6, 6) (otF σ a u) + 1) (k : psP σ τ b a u x) : pfI τ b N0 s t B := by
  obtain ⟨⟨hN, hA, hF⟩, hb, hc, h0, he, hV, h6, h7, h8, ⟨h9, h10⟩, h11, h12, h13, h14, h15⟩ := h
  obtain ⟨kf, k3, k5⟩ := k
  obtain ⟨u1, w1, uw⟩ := ends hN ha hu
  have hFa := hF a ha.1 ha.2
  obtain ⟨q1, q2, q3⟩ := hN.2.2 a ha.1 ha.2
  have hF' : FlOk τ b := by
    intro c c1 c2
    rw [kf.of 0 1] at c2
    rw [kf.own 2, k3 c]
    have hFc := hF c c1 c2
    by_cases e : c = a
    · subst e
      rw [if_pos rfl]
      unfold rmF at hx
      by_cases e2 : σ (0, 2) c = u
      · rw [if_pos e2] at hx ⊢; omega
      · rw [if_neg e2] at hx ⊢; omega
    · rw [if_neg e]; exact hFc
  have hnet : ∀ X, net τ b X = net σ b X + ind X u x - ind X (otF σ a u) x := by
    intro X
    rw [net_send (σ := σ) ha (kf.of 0 1) (kf.of 0 2) (kf.of 0 3) k3]
    rcases hu with hu | hu
    · subst hu
      rw [if_pos rfl, otF_t]
    · subst hu
      rw [if_neg q3, otF_h hN ha]
      have e : ∀ y, ind X y (-x) = - ind X y x := fun y => by unfold ind; split <;> omega
      rw [e, e]; omega
  have hsx : ∀ X, sx τ b X = sx σ b X + ind X (otF σ a u) x - ind X u x := fun X => sx_two u1 w1 uw (kf.of 0 0) k5
  refine ⟨⟨kf.net hN, kf.adj hA, hF'⟩, fun X => ?_, fun X => ?_, h0, fun v v1 v2 => ?_, ?_, ?_, ?_, ?_, ⟨?_, ?_⟩, ?_, ?_, h13, h14, h15⟩
  · rw [hnet, hsx]
    have := hb X
    omega
  · rw [cpo_same (kf.of 0 1) (kf.of 0 2) (kf.of 0 3) (kf.own 2)]; exact hc X
  · rw [kf.of 0 0] at v2
    rw [k5 v]
    have := he v v1 v2
    by_cases e : v = otF σ a u
    · rw [if_pos e]; rw [e] at this; omega
    · rw [if_neg e]
      by_cases e2 : v = u
      · rw [if_pos e2]; omega
      · rw [if_neg e2]; exact this
  · intro c c1 c2
    rw [kf.of 0 1] at c2
    rw [kf.own 2, kf.own 6, kf.of 0 2, kf.of 0 3, k3 c]
    have hv := hV c c1 c2
    by_cases e : c = a
    · subst e
      rw [if_pos rfl]
      unfold rmF at hx
      rcases hu with hu | hu
      · subst hu
        rw [otF_t] at hh
        rw [if_pos rfl] at hx ⊢
        exact ⟨fun _ => by omega, fun _ => by omega⟩
      · subst hu
        rw [otF_h hN ha] at hh
        rw [if_neg q3] at hx ⊢
        exact ⟨fun _ => by omega, fun _ => by omega⟩
    · rw [if_neg e]; exact hv
  · rw [kf.own 6]; exact h6
  · rw [kf.own 6, kf.of 0 0]; exact h7
  · rw [kf.own 6, kf.of 0 0]; exact h8
  · rw [kf.own 11]; exact h9
  · rw [kf.own 12]; exact h10
  · rw [kf.of 0 0]; exact h11
  · rw [kf.of 0 0]; exact h12
/-- pushOut at work: σ0 its start, the node u, the arcs below i done -/
def poI (σ0 σ : Mem) (b : Nat) (N0 : (Int → Bool) → Int) (s t B u i : Int) : Prop := pfI σ b N0 s t B ∧ Fr b [3, 5] σ0 σ ∧ (∀ v, 0 ≤ v → v < σ (0, 0) 0 → v ≠ u → σ0 (b + 6, 5) v ≤ σ (b + 6, 5) v ∧ (σ (b + 6, 5) v ≠ σ0 (b + 6, 5) v → σ (b + 6, 6) v + 1 = σ (b + 6, 6) u)) ∧
  σ (b + 6, 5) u ≤ σ0 (b + 6, 5) u ∧ ∀ j, 0 ≤ j → j < i → σ (b + 6, 6) u = σ (b + 6, 6) (otF σ (σ (1, u.toNat) j) u) + 1 → σ (b + 6, 5) u = 0 ∨ rmF σ b (σ (1, u.toNat) j) u = 0
theorem poI_0 {σ : Mem} {b : Nat} {N0 : (Int → Bool) → Int} {s t B u : Int} (h : pfI σ b N0 s t B) : poI σ σ b N0 s t B u 0 := ⟨h, Fr.rf, fun _ _ _ _ => ⟨Int.le_refl _, fun e => absurd rfl e⟩, Int.le_refl _, fun j h1 h2 => by omega⟩
theorem poI_skip {σ0 σ : Mem} {b : Nat} {N0 : (Int → Bool) → Int} {s t B u i : Int} (h : poI σ0 σ b N0 s t B u i) (hi : ¬ σ (b + 6, 6) u = σ (b + 6, 6) (otF σ (σ (1, u.toNat) i) u) + 1) : poI σ0 σ b N0 s t B u (i + 1) := ⟨h.1, h.2.1, h.2.2.1, h.2.2.2.1, fun j h1 h2 h3 => by
  by_cases e : j = i
  · subst e; exact absurd h3 hi
  · exact h.2.2.2.2 j h1 (by omega) h3⟩
theorem poI_push {σ0 σ τ : Mem} {b : Nat} {N0 : (Int → Bool) → Int} {s t B u i x : Int} (h : poI σ0 σ b N0 s t B u i) (hu : 0 ≤ u ∧ u < 24) (hi : 0 ≤ i ∧ i < σ (0, 4) u) (hh : σ (b + 6, 6) u = σ (b + 6, 6) (otF σ (σ (1, u.toNat) i) u) + 1) (hx : (x = σ (b + 6, 5) u ∨ x = rmF σ b (σ (1, u.toNat) i) u) ∧ x ≤ σ (b + 6, 5) u ∧ x ≤ rmF σ b (σ (1, u.toNat) i) u) (k : psP σ τ b (σ (1, u.toNat) i) u x) : poI σ0 τ b N0 s t B u (i + 1) := by
  obtain ⟨h1, h2, h3, h4, h5⟩ := h
  have hN := h1.1.1
  have hA := h1.1.2.1
  have hF := h1.1.2.2
  obtain ⟨ha, hua⟩ := hA.2.2.1 u i hu.1 hu.2 hi.1 hi.2
  obtain ⟨u1, w1, uw⟩ := ends hN ha hua
  have hex := (pf_exc h1 u1).1
  have hrm := (rmF_rg hF (v := u) ha).1
  have hx0 : 0 ≤ x := by rcases hx.1 with e | e <;> omega
  obtain ⟨kf, k3, k5⟩ := id k
  refine ⟨pf_push h1 ha hua ⟨hx0, hx.2⟩ hh k, h2.tr (kf.up (by decide)), fun v v1 v2 v3 => ?_, ?_, fun j j1 j2 j3 => ?_⟩
  · rw [kf.of 0 0] at v2
    have h3v := h3 v v1 v2 v3
    rw [kf.own 6, k5 v]
    by_cases e : v = otF σ (σ (1, u.toNat) i) u
    · rw [if_pos e, ← e]
      refine ⟨by omega, fun _ => ?_⟩
      rw [e]; omega
    · rw [if_neg e, if_neg v3]
      exact h3v
  · rw [k5 u, if_neg uw, if_pos rfl]
    omega
  · have e1 : τ (1, u.toNat) = σ (1, u.toNat) := kf.of 1 _
    have eo : ∀ c, otF τ c u = otF σ c u := fun c => by unfold otF; rw [kf.of 0 2, kf.of 0 3]
    rw [e1] at j3 ⊢
    rw [kf.own 6, eo] at j3
    rw [k5 u, if_neg uw, if_pos rfl]
    by_cases e : j = i
    · subst e
      rw [ps_rm hN ha hua k _ hua ha, if_pos rfl]
      rcases hx.1 with e | e
      · left; omega
      · right; omega
    · have hj2 : j < i := by omega
      obtain ⟨hc, huc⟩ := hA.2.2.1 u j hu.1 hu.2 j1 (by omega)
      rw [ps_rm hN ha hua k _ huc hc]
      rcases h5 j j1 hj2 j3 with q | q
      · left; omega
      · by_cases e2 : σ (1, u.toNat) j = σ (1, u.toNat) i
        · rw [if_pos e2]
          right
          rw [← e2] at hx ⊢
          omega
        · rw [if_neg e2]
          right; exact q
/-- pushOut's answer -/
def poP (σ τ : Mem) (b : Nat) (N0 : (Int → Bool) → Int) (s t B u : Int) : Prop := pfI τ b N0 s t B ∧ Fr b [3, 5] σ τ ∧ (∀ v, 0 ≤ v → v < τ (0, 0) 0 → v ≠ u → τ (b + 6, 5) v ≠ σ (b + 6, 5) v → τ (b + 6, 6) v + 1 = τ (b + 6, 6) u) ∧
  (0 < τ (b + 6, 5) u → ∀ a, 0 ≤ a → a < τ (0, 1) 0 → (τ (0, 2) a = u ∨ τ (0, 3) a = u) → 0 < rmF τ b a u → τ (b + 6, 6) u ≤ τ (b + 6, 6) (otF τ a u))
theorem adj_at {σ : Mem} (hA : AdjOk σ) {a u : Int} (ha : 0 ≤ a ∧ a < σ (0, 1) 0) (hu : σ (0, 2) a = u ∨ σ (0, 3) a = u) : ∃ j, (0 ≤ j ∧ j < σ (0, 4) u) ∧ σ (1, u.toNat) j = a := by
  obtain ⟨q1, q2⟩ := hA.2.2.2 a ha.1 ha.2
  rcases hu with rfl | rfl
  · exact q1
  · exact q2
theorem VL_rm {σ : Mem} {b : Nat} (hN : NetOk σ) (hV : VL σ b) {a u : Int} (ha : 0 ≤ a ∧ a < σ (0, 1) 0) (hu : σ (0, 2) a = u ∨ σ (0, 3) a = u) (h0 : 0 < rmF σ b a u) : σ (b + 6, 6) u ≤ σ (b + 6, 6) (otF σ a u) + 1 := by
  have hv := hV a ha.1 ha.2
  rcases hu with rfl | rfl
  · rw [rmF_t] at h0
    rw [otF_t]
    exact hv.1 h0
  · rw [rmF_h hN ha] at h0
    rw [otF_h hN ha]
    exact hv.2 h0
theorem poI_end {σ0 σ : Mem} {b : Nat} {N0 : (Int → Bool) → Int} {s t B u i : Int} (h : poI σ0 σ b N0 s t B u i) (hi : σ (0, 4) u ≤ i) : poP σ0 σ b N0 s t B u := by
  obtain ⟨h1, h2, h3, h4, h5⟩ := h
  refine ⟨h1, h2, fun v v1 v2 v3 v4 => (h3 v v1 v2 v3).2 v4, fun he a a1 a2 a3 a4 => ?_⟩
  obtain ⟨j, hj, e⟩ := adj_at h1.1.2.1 ⟨a1, a2⟩ a3
  have hv := VL_rm h1.1.1 h1.2.2.2.2.2.1 ⟨a1, a2⟩ a3 a4
  have := h5 j hj.1 (by omega)
  rw [e] at this
  by_cases q : σ (b + 6, 6) u = σ (b + 6, 6) (otF σ a u) + 1
  · have := this q
    omega
  · omega
/-! a lift -/
def lfI (σ : Mem) (b : Nat) (u i y : Int) : Prop := 0 ≤ y ∧ y ≤ 48 ∧ (∀ j, 0 ≤ j → j < i → 0 < rmF σ b (σ (1, u.toNat) j) u → y ≤ σ (b + 6, 6) (otF σ (σ (1, u.toNat) j) u)) ∧ (y = 48 ∨ ∃ j, 0 ≤ j ∧ j < i ∧ 0 < rmF σ b (σ (1, u.toNat) j) u ∧ y = σ (b + 6, 6) (otF σ (σ (1, u.toNat) j) u))
theorem lfI_0 {σ : Mem} {b : Nat} {u : Int} : lfI σ b u 0 48 := ⟨by omega, by omega, fun j h1 h2 => by omega, Or.inl rfl⟩
theorem lfI_skip {σ : Mem} {b : Nat} {u i y : Int} (h : lfI σ b u i y) (hi : ¬ 0 < rmF σ b (σ (1, u.toNat) i) u) : lfI σ b u (i + 1) y := ⟨h.1, h.2.1, fun j h1 h2 h3 => by
  by_cases e : j = i
  · subst e; exact absurd h3 hi
  · exact h.2.2.1 j h1 (by omega) h3, h.2.2.2.elim Or.inl (fun ⟨j, h1, h2, h3⟩ => Or.inr ⟨j, h1, by omega, h3⟩)⟩
theorem lfI_min {σ : Mem} {b : Nat} {u i y z : Int} (h : lfI σ b u i y) (hi0 : 0 ≤ i) (hi : 0 < rmF σ b (σ (1, u.toNat) i) u) (h0 : 0 ≤ σ (b + 6, 6) (otF σ (σ (1, u.toNat) i) u)) (hz : (z = y ∨ z = σ (b + 6, 6) (otF σ (σ (1, u.toNat) i) u)) ∧ z ≤ y ∧ z ≤ σ (b + 6, 6) (otF σ (σ (1, u.toNat) i) u)) : lfI σ b u (i + 1) z := by
  obtain ⟨h1, h2, h3, h4⟩ := h
  refine ⟨by rcases hz.1 with e | e <;> omega, by omega, fun j j1 j2 j3 => ?_, ?_⟩
  · by_cases e : j = i
    · subst e; exact hz.2.2
    · have := h3 j j1 (by omega) j3
      omega
  · rcases hz.1 with e | e
    · rw [e]
      exact h4.elim Or.inl (fun ⟨j, q1, q2, q3⟩ => Or.inr ⟨j, q1, by omega, q3⟩)
    · exact Or.inr ⟨i, hi0, by omega, hi, e⟩
/-- lift's answer: nothing, or the node stands higher -/
def lfP (σ τ : Mem) (b : Nat) (N0 : (Int → Bool) → Int) (s t B u : Int) : Prop := (σ (b + 6, 5) u = 0 ∧ τ = σ) ∨ (0 < σ (b + 6, 5) u ∧ pfI τ b N0 s t B ∧ ∃ z, σ (b + 6, 6) u + 1 ≤ z ∧ τ = mset σ (b + 6, 6) u z)
theorem lf_end {σ : Mem} {b : Nat} {N0 : (Int → Bool) → Int} {s t B u i y z : Int} (h : pfI σ b N0 s t B) (hu : 0 ≤ u ∧ u < σ (0, 0) 0) (hut : u ≠ t) (hus : u = s → σ (b + 6, 6) u < σ (0, 0) 0) (he : 0 < σ (b + 6, 5) u) (hp : ∀ a, 0 ≤ a → a < σ (0, 1) 0 → (σ (0, 2) a = u ∨ σ (0, 3) a = u) → 0 < rmF σ b a u → σ (b + 6, 6) u ≤ σ (b + 6, 6) (otF σ a u)) (hy : lfI σ b u i y) (hi : σ (0, 4) u ≤ i) (hi2 : i ≤ σ (0, 4) u) (hz : (u = s → (z = y + 1 ∨ z = σ (0, 0) 0) ∧ z ≤ y + 1 ∧ z ≤ σ (0, 0) 0) ∧ (u ≠ s → z = y + 1)) : lfP σ (mset σ (b + 6, 6) u z) b N0 s t B u := by
  obtain ⟨⟨hN, hA, hF⟩, hb, hc, h0, hee, hV, h6, h7, h8, ⟨h9, h10⟩, h11, h12, h13, h14, h15⟩ := h
  obtain ⟨y0, y1, y2, y3⟩ := hy
  have hn := hN.1
  have h8u := h8 u hu.1 hu.2
  have hyh : σ (b + 6, 6) u ≤ y := by
    rcases y3 with e | ⟨j, j1, j2, j3, e⟩
    · omega
    · obtain ⟨q1, q2⟩ := hA.2.2.1 u j hu.1 (by omega) j1 (by omega)
      rw [e]
      exact hp _ q1.1 q1.2 q2 j3
  have hzh : σ (b + 6, 6) u + 1 ≤ z := by
    by_cases e : u = s
    · have := hus e
      rcases (hz.1 e).1 with e2 | e2 <;> omega
    · have := hz.2 e
      omega
  have hzy : z ≤ y + 1 := by
    by_cases e : u = s
    · exact (hz.1 e).2.1
    · exact Int.le_of_eq (hz.2 e)
  have kf : Fr b [6] σ (mset σ (b + 6, 6) u z) := Fr.set (by decide)
  have k6 : ∀ v, mset σ (b + 6, 6) u z (b + 6, 6) v = if v = u then z else σ (b + 6, 6) v := fun v => mset_at
  generalize hτ : mset σ (b + 6, 6) u z = τ at kf k6 ⊢
  have hVτ : VL τ b := by
    intro c c1 c2
    rw [kf.of 0 1] at c2
    rw [kf.own 2, kf.own 3, kf.of 0 2, kf.of 0 3, k6, k6]
    have hv := hV c c1 c2
    obtain ⟨q1, q2, q3⟩ := hN.2.2 c c1 c2
    have hcc : 0 ≤ c ∧ c < σ (0, 1) 0 := ⟨c1, c2⟩
    constructor
    · intro r
      by_cases e1 : σ (0, 2) c = u
      · obtain ⟨j, hj, ej⟩ := adj_at hA hcc (Or.inl e1)
        have := y2 j hj.1 (by omega)
        rw [ej, ← e1, rmF_t, otF_t] at this
        have := this r
        rw [if_pos e1, if_neg (by rw [← e1]; exact Ne.symm q3)]
        omega
      · rw [if_neg e1]
        by_cases e2 : σ (0, 3) c = u
        · rw [if_pos e2]
          have := hv.1 r
          rw [e2] at this
          omega
        · rw [if_neg e2]; exact hv.1 r
    · intro r
      by_cases e1 : σ (0, 3) c = u
      · obtain ⟨j, hj, ej⟩ := adj_at hA hcc (Or.inr e1)
        have := y2 j hj.1 (by omega)
        rw [ej, ← e1, rmF_h hN hcc, otF_h hN hcc] at this
        have := this r
        rw [if_pos e1, if_neg (by rw [← e1]; exact q3)]
        omega
      · rw [if_neg e1]
        by_cases e2 : σ (0, 2) c = u
        · rw [if_pos e2]
          have := hv.2 r
          rw [e2] at this
          omega
        · rw [if_neg e2]; exact hv.2 r
  have hb' : ∀ X, net τ b X + sx τ b X = N0 X + ind X s B := fun X => by
    rw [net_same (kf.of 0 1) (kf.of 0 2) (kf.of 0 3) (kf.own 3), sx_same (kf.of 0 0) (kf.own 5)]; exact hb X
  have hc' : ∀ X, N0 X ≤ cpo τ b X := fun X => by rw [cpo_same (kf.of 0 1) (kf.of 0 2) (kf.of 0 3) (kf.own 2)]; exact hc X
  have hee' : ∀ v, 0 ≤ v → v < τ (0, 0) 0 → 0 ≤ τ (b + 6, 5) v := by rw [kf.of 0 0, kf.own 5]; exact hee
  have h6' : τ (b + 6, 6) t = 0 := by rw [k6, if_neg (Ne.symm hut)]; exact h6
  have h7' : τ (b + 6, 6) s ≤ τ (0, 0) 0 := by
    rw [k6, kf.of 0 0]
    by_cases e : s = u
    · rw [if_pos e]; exact (hz.1 e.symm).2.2
    · rw [if_neg e]; exact h7
  have hN' := kf.net hN
  have hF' := kf.fl (hN := hF)
  have h12' : 0 ≤ t ∧ t < τ (0, 0) 0 := by rw [kf.of 0 0]; exact h12
  refine Or.inr ⟨he, ⟨⟨hN', kf.adj hA, hF'⟩, hb', hc', h0, hee', hVτ, h6', h7', fun v v1 v2 => ?_, ⟨by rw [kf.own 11]; exact h9, by rw [kf.own 12]; exact h10⟩, by rw [kf.of 0 0]; exact h11, h12', h13, h14, h15⟩, z, hzh, hτ.symm⟩
  have hv2 : v < σ (0, 0) 0 := by rw [kf.of 0 0] at v2; exact v2
  have h8v := h8 v v1 hv2
  by_cases e : v = u
  · subst e
    have := pf_high hN' hF' hb' hc' hee' hVτ h6' h7' h12' (v := v) ⟨v1, v2⟩ (by rw [kf.own 5]; exact he)
    refine ⟨by rw [k6, if_pos rfl]; omega, this⟩
  · rw [k6, if_neg e, kf.of 0 0]
    exact h8v
/-! a sweep -/
def act (σ : Mem) (b : Nat) (s t v : Int) : Prop := 0 < σ (b + 6, 5) v ∧ v ≠ t ∧ (v ≠ s ∨ σ (b + 6, 6) v < σ (0, 0) 0)
def HS (σ : Mem) (b : Nat) : Int := sm (fun v => σ (b + 6, 6) v) (σ (0, 0) 0).toNat
theorem HS_rg {σ : Mem} {b : Nat} {N0 : (Int → Bool) → Int} {s t B : Int} (h : pfI σ b N0 s t B) : 0 ≤ HS σ b ∧ HS σ b ≤ 1128 := by
  have hn := h.1.1.1
  have h8 := h.2.2.2.2.2.2.2.2.1
  refine ⟨sm_nn fun a h1 h2 => (h8 a h1 (by omega)).1, ?_⟩
  have h1 := sm_le (f := fun v => σ (b + 6, 6) v) (g := fun _ => 47) (n := (σ (0, 0) 0).toNat) (fun a h1 h2 => by
    have := (h8 a h1 (by omega)).2
    show σ (b + 6, 6) a ≤ 47
    omega)
  rw [sm_const] at h1
  have h2 : HS σ b = sm (fun v => σ (b + 6, 6) v) (σ (0, 0) 0).toNat := rfl
  omega
theorem HS_same {σ τ : Mem} {b : Nat} (e0 : τ (0, 0) = σ (0, 0)) (e6 : τ (b + 6, 6) = σ (b + 6, 6)) : HS τ b = HS σ b := by
  unfold HS
  rw [e0, e6]
theorem HS_up {σ : Mem} {b : Nat} {u z : Int} (hu : 0 ≤ u ∧ u < σ (0, 0) 0) : HS (mset σ (b + 6, 6) u z) b = HS σ b - σ (b + 6, 6) u + z := by
  have kf : Fr b [6] σ (mset σ (b + 6, 6) u z) := Fr.set (by decide)
  unfold HS
  rw [kf.of 0 0]
  have h1 : sm (fun v => mset σ (b + 6, 6) u z (b + 6, 6) v) (σ (0, 0) 0).toNat = sm (fun v => if v = u then z else σ (b + 6, 6) v) (σ (0, 0) 0).toNat := sm_cong fun a _ _ => mset_at
  rw [h1, sm_upd (fun v => σ (b + 6, 6) v) hu.1 (by omega)]
def swI (σ0 σ : Mem) (b : Nat) (N0 : (Int → Bool) → Int) (s t B f k y : Int) : Prop := pfI σ b N0 s t B ∧ Fr b [3, 5, 6] σ0 σ ∧ (y = 0 ∨ y = 1) ∧ (y = 0 → σ = σ0 ∧ ∀ v, 0 ≤ v → v < k → ¬ act σ b s t v) ∧ (y = 1 → 0 ≤ f) ∧ HS σ0 b ≤ HS σ b ∧ (HS σ0 b < HS σ b → y = 1) ∧
  (HS σ b = HS σ0 b → (∀ v, 0 ≤ v → v < k → act σ b s t v → σ (b + 6, 6) v ≤ f - 1) ∧ ∀ v, k ≤ v → v < σ (0, 0) 0 → act σ b s t v → σ (b + 6, 6) v ≤ f)
theorem swI_0 {σ : Mem} {b : Nat} {N0 : (Int → Bool) → Int} {s t B f : Int} (h : pfI σ b N0 s t B) (hf : ∀ v, 0 ≤ v → v < σ (0, 0) 0 → act σ b s t v → σ (b + 6, 6) v ≤ f) : swI σ σ b N0 s t B f 0 0 := ⟨h, Fr.rf, Or.inl rfl, fun _ => ⟨rfl, fun v h1 h2 => by omega⟩, fun e => by omega, Int.le_refl _, fun e => by omega, fun _ => ⟨fun v h1 h2 => by omega, hf⟩⟩
theorem swI_skip {σ0 σ : Mem} {b : Nat} {N0 : (Int → Bool) → Int} {s t B f k y : Int} (h : swI σ0 σ b N0 s t B f k y) (hk : ¬ act σ b s t k) : swI σ0 σ b N0 s t B f (k + 1) y := by
  obtain ⟨h1, h2, h3, h4, h5, h6, h7, h8⟩ := h
  refine ⟨h1, h2, h3, fun e => ⟨(h4 e).1, fun v v1 v2 => ?_⟩, h5, h6, h7, fun e => ⟨fun v v1 v2 v3 => ?_, fun v v1 v2 v3 => (h8 e).2 v (by omega) v2 v3⟩⟩
  · by_cases e2 : v = k
    · rw [e2]; exact hk
    · exact (h4 e).2 v v1 (by omega)
  · by_cases e2 : v = k
    · rw [e2] at v3; exact absurd v3 hk
    · exact (h8 e).1 v v1 (by omega) v3
theorem swI_step {σ0 σ σ1 τ : Mem} {b : Nat} {N0 : (Int → Bool) → Int} {s t B f k y : Int} (h : swI σ0 σ b N0 s t B f k y) (hk : 0 ≤ k ∧ k < σ (0, 0) 0) (ha : act σ b s t k) (hp : poP σ σ1 b N0 s t B k) (hl : lfP σ1 τ b N0 s t B k) : swI σ0 τ b N0 s t B f (k + 1) 1 := by
  obtain ⟨h1, h2, h3, h4, h5, h6, h7, h8⟩ := h
  obtain ⟨p1, p2, p3, p4⟩ := hp
  have hh1 : HS σ1 b = HS σ b := HS_same (p2.of 0 0) (p2.own 6)
  have hf0 : 0 ≤ f := by
    by_cases e : HS σ b = HS σ0 b
    · have q1 := (h8 e).2 k (Int.le_refl k) hk.2 ha
      have q2 := (h1.2.2.2.2.2.2.2.2.1 k hk.1 hk.2).1
      omega
    · exact h5 (h7 (by omega))
  rcases hl with ⟨l1, rfl⟩ | ⟨l1, l2, z, l3, rfl⟩
  · refine ⟨p1, h2.tr (p2.up (by decide)), Or.inr rfl, fun e => by omega, fun _ => hf0, by omega, fun _ => rfl, fun e => ?_⟩
    have e8 := h8 (by omega)
    have key : ∀ v, 0 ≤ v → v < σ (0, 0) 0 → act τ b s t v → v ≠ k ∧ (act σ b s t v ∨ τ (b + 6, 6) v ≤ f - 1) := by
      intro v v1 v2 v3
      have hvk : v ≠ k := by
        intro e3
        have := v3.1
        rw [e3] at this
        omega
      refine ⟨hvk, ?_⟩
      by_cases e3 : τ (b + 6, 5) v = σ (b + 6, 5) v
      · left
        unfold act at v3 ⊢
        rw [e3, p2.own 6, p2.of 0 0] at v3
        exact v3
      · right
        have q1 := p3 v v1 (by rw [p2.of 0 0]; exact v2) hvk e3
        have q2 := e8.2 k (Int.le_refl k) hk.2 ha
        rw [p2.own 6] at q1 ⊢
        omega
    refine ⟨fun v v1 v2 v3 => ?_, fun v v1 v2 v3 => ?_⟩
    · obtain ⟨q1, q2⟩ := key v v1 (by omega) v3
      rcases q2 with q2 | q2
      · have := e8.1 v v1 (by omega) q2
        rw [p2.own 6]; exact this
      · exact q2
    · rw [p2.of 0 0] at v2
      obtain ⟨q1, q2⟩ := key v (by omega) v2 v3
      rcases q2 with q2 | q2
      · have := e8.2 v (by omega) v2 q2
        rw [p2.own 6]; exact this
      · omega
  · have hu : HS (mset σ1 (b + 6, 6) k z) b = HS σ1 b - σ1 (b + 6, 6) k + z := HS_up (by rw [p2.of 0 0]; exact hk)
    refine ⟨l2, (h2.tr (p2.up (by decide))).tr (Fr.set (by decide)), Or.inr rfl, fun e => by omega, fun _ => hf0, by omega, fun _ => rfl, fun e => by omega⟩
/-- a sweep's answer -/
def swP (σ τ : Mem) (b : Nat) (N0 : (Int → Bool) → Int) (s t B f y : Int) : Prop := pfI τ b N0 s t B ∧ Fr b [3, 5, 6] σ τ ∧ ((y = 0 ∧ ∀ v, 0 ≤ v → v < τ (0, 0) 0 → ¬ act τ b s t v) ∨ (y = 1 ∧ 0 ≤ f ∧ (HS σ b < HS τ b ∨ (HS τ b = HS σ b ∧ ∀ v, 0 ≤ v → v < τ (0, 0) 0 → act τ b s t v → τ (b + 6, 6) v ≤ f - 1))))
theorem swI_end {σ0 σ : Mem} {b : Nat} {N0 : (Int → Bool) → Int} {s t B f k y : Int} (h : swI σ0 σ b N0 s t B f k y) (hk : σ (0, 0) 0 ≤ k) : swP σ0 σ b N0 s t B f y := by
  obtain ⟨h1, h2, h3, h4, h5, h6, h7, h8⟩ := h
  refine ⟨h1, h2, ?_⟩
  rcases h3 with e | e
  · exact Or.inl ⟨e, fun v v1 v2 => (h4 e).2 v v1 (by omega)⟩
  · refine Or.inr ⟨e, h5 e, ?_⟩
    by_cases e2 : HS σ b = HS σ0 b
    · exact Or.inr ⟨e2, fun v v1 v2 v3 => (h8 e2).1 v v1 (by omega) v3⟩
    · exact Or.inl (by omega)
/-! the whole route -/
def rtI (σ0 σ : Mem) (b : Nat) (N0 : (Int → Bool) → Int) (s t B f k y : Int) : Prop := pfI σ b N0 s t B ∧ Fr b [3, 5, 6, 7, 11, 12] σ0 σ ∧ (y = 0 ∨ y = 1) ∧ (y = 0 → ∀ v, 0 ≤ v → v < σ (0, 0) 0 → ¬ act σ b s t v) ∧ (∀ v, 0 ≤ v → v < σ (0, 0) 0 → act σ b s t v → σ (b + 6, 6) v ≤ f) ∧ -1 ≤ f ∧ (0 ≤ k ∧ k ≤ 70000) ∧ (y = 1 → k + (1200 - HS σ b) * 50 + f ≤ 61000)
theorem rtI_step {σ0 σ τ : Mem} {b : Nat} {N0 : (Int → Bool) → Int} {s t B f k y z : Int} (h : rtI σ0 σ b N0 s t B f k y) (hy : y = 1) (hw : swP σ τ b N0 s t B f z) : ∃ f', rtI σ0 τ b N0 s t B f' (k + 1) z := by
  obtain ⟨h1, h2, h3, h4, h5, h6, h7, h8⟩ := h
  obtain ⟨w1, w2, w3⟩ := hw
  have hn := w1.1.1.1
  have hr := HS_rg w1
  have hr0 := HS_rg h1
  have h8 := h8 hy
  have hb : ∀ v, 0 ≤ v → v < τ (0, 0) 0 → act τ b s t v → τ (b + 6, 6) v ≤ 47 := fun v v1 v2 _ => by
    have := (w1.2.2.2.2.2.2.2.2.1 v v1 v2).2
    omega
  rcases w3 with ⟨e, w4⟩ | ⟨e, w4, w5⟩
  · refine ⟨-1, w1, h2.tr (w2.up (by decide)), Or.inl e, fun _ => w4, fun v v1 v2 v3 => absurd v3 (w4 v v1 v2), by omega, by omega, fun q => by omega⟩
  · rcases w5 with w5 | ⟨w5, w6⟩
    · exact ⟨47, w1, h2.tr (w2.up (by decide)), Or.inr e, fun q => by omega, hb, by omega, by omega, fun _ => by omega⟩
    · exact ⟨f - 1, w1, h2.tr (w2.up (by decide)), Or.inr e, fun q => by omega, w6, by omega, by omega, fun _ => by omega⟩
/-- what route makes and answers -/
def rtP (σ τ : Mem) (b : Nat) (s t B z : Int) : Prop := 0 ≤ z ∧ FlOk τ b ∧ Fr b [3, 5, 6, 7, 11, 12] σ τ ∧ (∀ X, net τ b X = net σ b X + ind X s z - ind X t z) ∧ (s < 0 ∨ t < 0 ∨ s = t ∨ B ≤ 0 → z = 0 ∧ τ = σ) ∧ (0 < B → z ≤ B) ∧ (0 ≤ s → 0 ≤ t → s ≠ t → 0 < B → z = B ∨ ∃ X : Int → Bool, X s = true ∧ ¬ X t = true ∧ clo τ b X)
theorem rtP_no {σ : Mem} {b : Nat} {s t B : Int} (hF : FlOk σ b) (h : s < 0 ∨ t < 0 ∨ s = t ∨ B ≤ 0) : rtP σ σ b s t B 0 := ⟨Int.le_refl 0, hF, Fr.rf, fun X => by rw [ind_0, ind_0]; omega, fun _ => ⟨rfl, rfl⟩, fun h => by omega, fun h1 h2 h3 h4 => by omega⟩
theorem sx_ends {σ : Mem} {b : Nat} {X : Int → Bool} {s t : Int} (hs : 0 ≤ s ∧ s < σ (0, 0) 0) (ht : 0 ≤ t ∧ t < σ (0, 0) 0) (hst : s ≠ t) (h : ∀ v, 0 ≤ v → v < σ (0, 0) 0 → v ≠ s → v ≠ t → σ (b + 6, 5) v = 0) : sx σ b X = ind X s (σ (b + 6, 5) s) + ind X t (σ (b + 6, 5) t) := by
  unfold sx
  have h1 : sm (fun j => ind X j (σ (b + 6, 5) j)) (σ (0, 0) 0).toNat = sm (fun j => if j = t then ind X t (σ (b + 6, 5) t) else if j = s then ind X s (σ (b + 6, 5) s) else 0) (σ (0, 0) 0).toNat := by
    refine sm_cong fun j h1 h2 => ?_
    show ind X j (σ (b + 6, 5) j) = _
    by_cases e : j = t
    · rw [if_pos e, e]
    · rw [if_neg e]
      by_cases e2 : j = s
      · rw [if_pos e2, e2]
      · rw [if_neg e2, h j h1 (by omega) e2 e, ind_0]
  rw [h1, sm_upd (fun j => if j = s then ind X s (σ (b + 6, 5) s) else 0) ht.1 (by omega), sm_upd (fun _ => 0) hs.1 (by omega), sm_zero, if_neg (Ne.symm hst)]
  omega
theorem rtI_end {σ0 σ : Mem} {b : Nat} {s t B f k y : Int} (h : rtI σ0 σ b (net σ0 b) s t B f k y) (hy : y = 0) (hB : 0 < B) : rtP σ0 σ b s t B (σ (b + 6, 5) t) := by
  obtain ⟨h1, h2, -, h4, -⟩ := h
  have h4 := h4 hy
  obtain ⟨⟨hN, hA, hF⟩, hb, hc, h0, he, hV, h6, h7, h8, ⟨h9, h10⟩, h11, h12, h13, h14, h15⟩ := id h1
  have hz : ∀ v, 0 ≤ v → v < σ (0, 0) 0 → v ≠ s → v ≠ t → σ (b + 6, 5) v = 0 := fun v v1 v2 v3 v4 => by
    have := he v v1 v2
    by_cases q : 0 < σ (b + 6, 5) v
    · exact absurd ⟨q, v4, Or.inl v3⟩ (h4 v v1 v2)
    · omega
  have hsx := fun X : Int → Bool => sx_ends (X := X) h11 h12 h13 hz
  have hal := hb (fun _ => true)
  rw [net_all, hsx, h0, ind_t rfl, ind_t rfl, ind_t rfl] at hal
  have es := he s h11.1 h11.2
  have et := he t h12.1 h12.2
  refine ⟨et, hF, h2, fun X => ?_, fun q => by omega, fun _ => by omega, fun _ _ _ _ => ?_⟩
  · have := hb X
    rw [hsx, show B = σ (b + 6, 5) s + σ (b + 6, 5) t by omega, ind_add] at this
    omega
  · by_cases q : 0 < σ (b + 6, 5) s
    · right
      have hs : ¬ σ (b + 6, 6) s < σ (0, 0) 0 := fun q2 => h4 s h11.1 h11.2 ⟨q, h13, Or.inr q2⟩
      obtain ⟨i, hi, hk⟩ := pig (h := σ (b + 6, 6)) (n := (σ (0, 0) 0).toNat) (c := fun i => (i : Int)) (fun i j hij hj => by
        show (i : Int) ≠ (j : Int)
        omega)
      have i1 : i ≠ 0 := by
        intro e
        subst e
        exact hk t h12.1 (by omega) h6
      have i2 : i ≠ (σ (0, 0) 0).toNat := by
        intro e
        exact hk s h11.1 (by omega) (by show σ (b + 6, 6) s = (i : Int); omega)
      refine ⟨_, ?_, ?_, gap_clo hN hV (k := (i : Int)) (fun v v1 v2 => hk v v1 (by omega))⟩
      · exact decide_eq_true (by omega)
      · intro q3
        have := of_decide_eq_true q3
        omega
    · left; omega
