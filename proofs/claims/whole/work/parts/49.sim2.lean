/-! BOTH SIDES AGREE: more answers -/
theorem sim_gcp {σ : Mem} (h : simN σ) (hm : 0 ≤ σ (0, 1) 0) (X : Int → Bool) : gcp (σ (0, 1) 0).toNat (σ (0, 2)) (σ (0, 3)) (σ (6, 2)) X = gcp (σ (4, 3) 0).toNat (σ (4, 4)) (σ (4, 5)) (σ (4, 6)) X := by
  rw [← h.2.1]
  exact gcp_cong (fun a a0 a1 => h.2.2.1 a a0 (by omega)) X
theorem sim_gf {σ : Mem} (h : simN σ) (hm : 0 ≤ σ (0, 1) 0) {a x z : Int} (ha : 0 ≤ a ∧ a < σ (0, 1) 0) (k : gfS σ a x) (r : gfM σ a z) : x = z := by
  obtain ⟨F, k1, k2, k3, k4⟩ := k
  obtain ⟨G, r1, r2, r3, r4⟩ := r
  have e := sim_mx h hm k1 r1
  subst e
  obtain ⟨e1, e2, e3⟩ := h.2.2.1 a ha.1 ha.2
  rw [e1, e2, h.2.2.2.1, h.2.2.2.2] at k3 k4
  rw [e3] at k2 k4
  have hg := sim_gcp h hm
  have a1 : z ≤ x := by
    rcases k4 with q | ⟨X, x1, x2, x3⟩
    · omega
    · have := r3 X x1 x2
      rw [hg X] at x3
      omega
  have a2 : x ≤ z := by
    rcases r4 with q | ⟨X, x1, x2, x3⟩
    · omega
    · have := k3 X x1 x2
      rw [hg X] at this
      omega
  omega
theorem mn_more {m : Nat} {tl hd c : Int → Int} {s t a x y v w : Int} (hst : s ≠ t) (hn : ¬ (tl a = s ∧ hd a = t)) (hc : ∀ j : Int, 0 ≤ j → j < m → c j ≤ 1000000) (hm : m ≤ 80) (hx : 80000000 < x) (hy : 80000000 < y) (h0 : ∀ j : Int, 0 ≤ j → j < m → 0 ≤ c j) (h : isMn m tl hd (updC c a x) s t v) (k : isMn m tl hd (updC c a y) s t w) (ha : 0 ≤ a ∧ a < m) : v = w := by
  have out : ∀ (u : Int) (X : Int → Bool), ¬ (X (tl a) = true ∧ ¬ X (hd a) = true) → gcp m tl hd (updC c a u) X = gcp m tl hd c X := fun u X q => sm_cong fun j j0 j1 => by
    show (if X (tl j) = true ∧ ¬ X (hd j) = true then updC c a u j else 0) = if X (tl j) = true ∧ ¬ X (hd j) = true then c j else 0
    by_cases e : j = a
    · subst e; rw [if_neg q, if_neg q]
    · rw [show updC c a u j = c j from if_neg e]
  have inn : ∀ (u : Int) (X : Int → Bool), 80000000 < u → (X (tl a) = true ∧ ¬ X (hd a) = true) → 80000000 < gcp m tl hd (updC c a u) X := fun u X hu q => by
    have := sm_pos (f := fun j => if X (tl j) = true ∧ ¬ X (hd j) = true then updC c a u j else 0) (n := m) (fun j j0 j1 => by
      have := h0 j j0 j1
      show 0 ≤ if X (tl j) = true ∧ ¬ X (hd j) = true then updC c a u j else 0
      unfold updC
      split
      · split <;> omega
      · exact Int.le_refl 0) ha
    have e : (if X (tl a) = true ∧ ¬ X (hd a) = true then updC c a u a else 0) = u := by
      rw [if_pos q]
      exact if_pos rfl
    have this : (if X (tl a) = true ∧ ¬ X (hd a) = true then updC c a u a else 0) ≤ gcp m tl hd (updC c a u) X := this
    omega
  have low : ∃ X : Int → Bool, X s = true ∧ ¬ X t = true ∧ ¬ (X (tl a) = true ∧ ¬ X (hd a) = true) := by
    by_cases q : tl a = s
    · exact ⟨fun v => decide (v ≠ t), decide_eq_true hst, fun g => of_decide_eq_true g rfl, fun g => g.2 (decide_eq_true (fun e => hn ⟨q, e⟩))⟩
    · exact ⟨fun v => decide (v = s), decide_eq_true rfl, fun g => hst (of_decide_eq_true g).symm, fun g => q (of_decide_eq_true g.1)⟩
  have bnd : ∀ X : Int → Bool, gcp m tl hd c X ≤ 80000000 := fun X => sm_80 hm fun j j0 j1 => by
    have := hc j j0 j1
    show (if X (tl j) = true ∧ ¬ X (hd j) = true then c j else 0) ≤ (1000000 : Int)
    split <;> omega
  obtain ⟨Z, z1, z2, z3⟩ := low
  have half : ∀ {u u' p r : Int}, 80000000 < u → isMn m tl hd (updC c a u) s t p → isMn m tl hd (updC c a u') s t r → r ≤ p := fun {u u' p r} hu hp hr => by
    obtain ⟨⟨X, x1, x2, x3⟩, p2⟩ := hp
    by_cases q : X (tl a) = true ∧ ¬ X (hd a) = true
    · have i1 := inn u X hu q
      have i2 := p2 Z z1 z2
      rw [out u Z z3] at i2
      have := bnd Z
      omega
    · have := hr.2 X x1 x2
      rw [out u' X q] at this
      rw [out u X q] at x3
      omega
  have a1 := half hx h k
  have a2 := half hy k h
  omega
theorem sim_ut {σ : Mem} (h : simN σ) (hm : 0 ≤ σ (0, 1) 0) {x z : UInt64} (k : utS σ x) (r : utM σ z) : x = z := by
  have e : outF σ = sm (outM σ) (σ (4, 3) 0).toNat := by
    unfold outF
    rw [← h.2.1]
    refine sm_cong fun a a0 a1 => ?_
    obtain ⟨e1, e2, e3⟩ := h.2.2.1 a a0 (by omega)
    show (if σ (0, 2) a = σ (6, 8) 0 then σ (6, 2) a else 0) = if σ (4, 4) a = σ (4, 7) 0 then σ (4, 6) a else 0
    rw [e1, e3, h.2.2.2.1]
  unfold utS at k
  rw [e] at k
  rcases k with ⟨k1, k2⟩ | ⟨k1, F, k2, k3⟩ <;> rcases r with ⟨r1, r2⟩ | ⟨r1, G, r2, r3⟩
  · rw [k2, r2]
  · exact absurd k1 r1
  · exact absurd r1 k1
  · rw [k3, r3, sim_mx h hm k2 r2]
theorem sim_cut {σ : Mem} (h : simN σ) {q : Int} : cutS σ q ↔ cutM σ q := by
  unfold cutS cutM
  rw [h.1, h.2.2.2.1, h.2.2.2.2]
theorem sim_en {σ : Mem} (h : simN σ) : endsNo σ 0 ↔ mEn σ := by
  show (σ (6, 8) 0 = -1 ∧ σ (6, 9) 0 = -1) ↔ _
  unfold mEn
  rw [h.2.2.2.1, h.2.2.2.2]
theorem sim_ey {σ : Mem} (h : simN σ) : endsYes σ 0 ↔ mEy σ := by
  show ((0 ≤ σ (6, 8) 0 ∧ σ (6, 8) 0 < σ (0, 0) 0) ∧ (0 ≤ σ (6, 9) 0 ∧ σ (6, 9) 0 < σ (0, 0) 0) ∧ σ (6, 8) 0 ≠ σ (6, 9) 0) ↔ _
  unfold mEy
  rw [h.1, h.2.2.2.1, h.2.2.2.2]
theorem sim_dg {σ : Mem} (h : simN σ) (hm : 0 ≤ σ (0, 1) 0) (hl : σ (3, 0) 0 = σ (4, 9) 0) {x z : Int} (k : dgP σ x) (r : dgM σ z) : x = z := by
  have e : dg0 (σ (0, 0) 0) (σ (0, 1) 0) (σ (3, 0) 0) (σ (6, 2)) (σ (6, 8) 0) (σ (6, 9) 0) = dg0 (σ (4, 2) 0) (σ (4, 3) 0) (σ (4, 9) 0) (σ (4, 6)) (σ (4, 7) 0) (σ (4, 8) 0) := by
    unfold dg0
    rw [h.1, ← h.2.1, hl, h.2.2.2.1, h.2.2.2.2, dgS_cong (fun j j0 j1 => (h.2.2.1 j j0 (by omega)).2.2)]
  rcases k with ⟨k1, k2⟩ | ⟨k1, F, a, b, k2, k3, k4, k5⟩ <;> rcases r with ⟨r1, r2⟩ | ⟨r1, G, c, d, r2, r3, r4, r5⟩
  · rw [k2, r2, e]
  · exact absurd r1 (fun g => mEn_no ((sim_en h).mp k1) g)
  · exact absurd ((sim_ey h).mp k1) (fun g => mEn_no r1 g)
  · rw [k5, r5, e, sim_mx h hm k2 r2, sm_one ((sim_sm h hm).mp k3) r3, gt_one ((sim_gt h hm).mp k4) r4]
/-- the list of cuts is one -/
theorem fc_one {K : (Int → Bool) → Prop} {n : Int} {P : Int → Prop} (hP : ∀ x z, P x → P z → x = z) {f g : Int → Int} {x z : Int} (h : fcS K n P f x) (k : fcS K n P g z) : x = z ∧ ∀ i, 0 ≤ i → i < x → f i = g i := by
  obtain ⟨h1, h2, h3, h4⟩ := h
  obtain ⟨k1, k2, k3, k4⟩ := k
  have key : ∀ i : Nat, (i : Int) < x → (i : Int) < z → f i = g i := by
    intro i
    induction i with
    | zero => exact fun _ _ => hP _ _ h2 k2
    | succ i ih =>
      intro a b
      have e := ih (by omega) (by omega)
      have y1 := h3 i (by omega) (by omega)
      have y2 := k3 i (by omega) (by omega)
      rw [e] at y1
      exact nxY_one y1 y2
  have e : x = z := by
    by_cases a : x < z
    · have q := key (x - 1).toNat (by omega) (by omega)
      rw [show (((x - 1).toNat : Nat) : Int) = x - 1 by omega] at q
      have y := k3 (x - 1) (by omega) (by omega)
      rcases h4 with w | w
      · omega
      · rw [q] at w
        exact absurd w (nxY_no y)
    · by_cases b : z < x
      · have q := key (z - 1).toNat (by omega) (by omega)
        rw [show (((z - 1).toNat : Nat) : Int) = z - 1 by omega] at q
        have y := h3 (z - 1) (by omega) (by omega)
        rcases k4 with w | w
        · omega
        · rw [← q] at w
          exact absurd w (nxY_no y)
      · omega
  refine ⟨e, fun i i0 i1 => ?_⟩
  have q := key i.toNat (by omega) (by omega)
  rwa [show ((i.toNat : Nat) : Int) = i by omega] at q
