/-! MAXIMUM FLOWS: the mathematics -/
def gnet (m : Nat) (tl hd f : Int → Int) (X : Int → Bool) : Int := sm (fun a => ind X (tl a) (f a) - ind X (hd a) (f a)) m
def gcp (m : Nat) (tl hd c : Int → Int) (X : Int → Bool) : Int := sm (fun a => if X (tl a) = true ∧ ¬ X (hd a) = true then c a else 0) m
/-- v is the maximum: a flow has this value, and a cut this capacity -/
def isMx (m : Nat) (tl hd c : Int → Int) (s t v : Int) : Prop := (∃ f : Int → Int, (∀ a : Int, 0 ≤ a → a < m → 0 ≤ f a ∧ f a ≤ c a) ∧ ∀ X, gnet m tl hd f X = ind X s v - ind X t v) ∧ ∃ X : Int → Bool, X s = true ∧ ¬ X t = true ∧ gcp m tl hd c X = v
theorem g_le {m : Nat} {tl hd c f : Int → Int} (hf : ∀ a : Int, 0 ≤ a → a < m → 0 ≤ f a ∧ f a ≤ c a) (X : Int → Bool) : gnet m tl hd f X ≤ gcp m tl hd c X := by
  refine sm_le fun a h1 h2 => ?_
  have h := hf a h1 h2
  show ind X (tl a) (f a) - ind X (hd a) (f a) ≤ if X (tl a) = true ∧ ¬ X (hd a) = true then c a else 0
  by_cases k1 : X (tl a) = true <;> by_cases k2 : X (hd a) = true
  · rw [ind_t k1, ind_t k2, if_neg (fun h => h.2 k2)]; omega
  · rw [ind_t k1, ind_f k2, if_pos ⟨k1, k2⟩]; omega
  · rw [ind_f k1, ind_t k2, if_neg (fun h => k1 h.1)]; omega
  · rw [ind_f k1, ind_f k2, if_neg (fun h => k1 h.1)]; omega
theorem isMx_le {m : Nat} {tl hd c : Int → Int} {s t v : Int} (h : isMx m tl hd c s t v) {X : Int → Bool} (hs : X s = true) (ht : ¬ X t = true) : v ≤ gcp m tl hd c X := by
  obtain ⟨⟨f, h1, h2⟩, -⟩ := h
  have := g_le (tl := tl) (hd := hd) h1 X
  rw [h2, ind_t hs, ind_f ht] at this
  omega
theorem isMx_one {m : Nat} {tl hd c : Int → Int} {s t v w : Int} (h : isMx m tl hd c s t v) (k : isMx m tl hd c s t w) : v = w := by
  obtain ⟨X, h1, h2, h3⟩ := h.2
  obtain ⟨Y, k1, k2, k3⟩ := k.2
  have a1 := isMx_le h k1 k2
  have a2 := isMx_le k h1 h2
  omega
theorem gcp_cong {m : Nat} {tl hd c tl' hd' c' : Int → Int} (h : ∀ a : Int, 0 ≤ a → a < m → tl' a = tl a ∧ hd' a = hd a ∧ c' a = c a) (X : Int → Bool) : gcp m tl' hd' c' X = gcp m tl hd c X := sm_cong fun a h1 h2 => by
  obtain ⟨e1, e2, e3⟩ := h a h1 h2
  show (if X (tl' a) = true ∧ ¬ X (hd' a) = true then c' a else 0) = _
  rw [e1, e2, e3]
theorem isMx_cong {m : Nat} {tl hd c tl' hd' c' : Int → Int} {s t v : Int} (h : ∀ a : Int, 0 ≤ a → a < m → tl' a = tl a ∧ hd' a = hd a ∧ c' a = c a) (k : isMx m tl hd c s t v) : isMx m tl' hd' c' s t v := by
  obtain ⟨⟨f, h1, h2⟩, X, h3, h4, h5⟩ := k
  refine ⟨⟨f, fun a a1 a2 => by rw [(h a a1 a2).2.2]; exact h1 a a1 a2, fun Y => ?_⟩, X, h3, h4, by rw [gcp_cong h]; exact h5⟩
  rw [← h2 Y]
  refine sm_cong fun a a1 a2 => ?_
  obtain ⟨e1, e2, -⟩ := h a a1 a2
  show ind Y (tl' a) (f a) - ind Y (hd' a) (f a) = _
  rw [e1, e2]
theorem gcp_nn {m : Nat} {tl hd c : Int → Int} (h : ∀ a : Int, 0 ≤ a → a < m → 0 ≤ c a) (X : Int → Bool) : 0 ≤ gcp m tl hd c X := sm_nn fun a h1 h2 => by
  have := h a h1 h2
  show 0 ≤ if X (tl a) = true ∧ ¬ X (hd a) = true then c a else 0
  split <;> omega
theorem isMx_nn {m : Nat} {tl hd c : Int → Int} {s t v : Int} (h : ∀ a : Int, 0 ≤ a → a < m → 0 ≤ c a) (k : isMx m tl hd c s t v) : 0 ≤ v := by
  obtain ⟨-, X, -, -, h5⟩ := k
  rw [← h5]
  exact gcp_nn h X
/-- the network that the memory holds, with the capacities of b -/
abbrev mxB (σ : Mem) (b : Nat) (s t v : Int) : Prop := isMx (σ (0, 1) 0).toNat (σ (0, 2)) (σ (0, 3)) (σ (b + 6, 2)) s t v
/-- the flow has the value F -/
def mfV (σ : Mem) (b : Nat) (F : Int) : Prop := ∀ X, net σ b X = ind X (σ (b + 6, 8) 0) F - ind X (σ (b + 6, 9) 0) F
def endsNo (σ : Mem) (b : Nat) : Prop := σ (b + 6, 8) 0 = -1 ∧ σ (b + 6, 9) 0 = -1
def endsYes (σ : Mem) (b : Nat) : Prop := (0 ≤ σ (b + 6, 8) 0 ∧ σ (b + 6, 8) 0 < σ (0, 0) 0) ∧ (0 ≤ σ (b + 6, 9) 0 ∧ σ (b + 6, 9) 0 < σ (0, 0) 0) ∧ σ (b + 6, 8) 0 ≠ σ (b + 6, 9) 0
/-- a cut of b that is closed: nothing more can flow -/
def shut (σ : Mem) (b : Nat) : Prop := ∃ X : Int → Bool, X (σ (b + 6, 8) 0) = true ∧ ¬ X (σ (b + 6, 9) 0) = true ∧ clo σ b X
def mfOk (σ : Mem) (b : Nat) : Prop := (NetOk σ ∧ AdjOk σ ∧ FlOk σ b) ∧ (endsNo σ b ∨ endsYes σ b) ∧ (∃ F, 0 ≤ F ∧ mfV σ b F) ∧ (endsNo σ b → ∀ a, 0 ≤ a → a < σ (0, 1) 0 → σ (b + 6, 3) a = 0) ∧ (σ (b + 6, 10) 0 = 0 ∨ σ (b + 6, 10) 0 = 1) ∧ (σ (b + 6, 10) 0 = 1 → endsYes σ b ∧ shut σ b) ∧ ∀ a, σ (0, 1) 0 ≤ a → a < 80 → σ (b + 6, 2) a = 0 ∧ σ (b + 6, 3) a = 0
theorem mx_of {σ : Mem} {b : Nat} {F : Int} (hN : NetOk σ) (hF : FlOk σ b) (hV : mfV σ b F) (hs : shut σ b) : mxB σ b (σ (b + 6, 8) 0) (σ (b + 6, 9) 0) F := by
  have hm := hN.2.1.1
  obtain ⟨X, h1, h2, h3⟩ := hs
  refine ⟨⟨σ (b + 6, 3), fun a a1 a2 => ⟨(hF a a1 (by omega)).1, (hF a a1 (by omega)).2.1⟩, hV⟩, X, h1, h2, ?_⟩
  have e1 := clo_net hN hF h3
  have e2 := hV X
  rw [ind_t h1, ind_f h2] at e2
  have e3 : cpo σ b X = gcp (σ (0, 1) 0).toNat (σ (0, 2)) (σ (0, 3)) (σ (b + 6, 2)) X := rfl
  omega
/-! what is moved away -/
def mvI (σ : Mem) (b : Nat) (F x y S : Int) : Prop := ∀ X, net σ b X = ind X (σ (b + 6, 8) 0) F - ind X (σ (b + 6, 9) 0) F - ind X x S + ind X y S
theorem rt_net {σ τ : Mem} {b : Nat} {s t B z : Int} (h : rtP σ τ b s t B z) (X : Int → Bool) : net τ b X = net σ b X + ind X s z - ind X t z := h.2.2.2.1 X
theorem rt_fr {σ τ : Mem} {b : Nat} {s t B z : Int} (h : rtP σ τ b s t B z) : Fr b [3, 5, 6, 7, 11, 12] σ τ := h.2.2.1
theorem mv_1 {σ τ : Mem} {b : Nat} {F x y S z : Int} (h : mvI σ b F x y S) (k : rtP σ τ b x y S z) : mvI τ b F x y (S - z) := fun X => by
  rw [rt_net k, h X, (rt_fr k).own 8, (rt_fr k).own 9, ind_sub, ind_sub]
  omega
/-- the three routes together -/
theorem mv_all {σ σ1 σ2 τ : Mem} {b : Nat} {F x y S z1 z2 z3 : Int} (hN : NetOk σ) (hE : endsYes σ b) (hF : 0 ≤ F) (hS : 0 < S) (hx : 0 ≤ x) (hy : 0 ≤ y) (hxy : x ≠ y) (h : mvI σ b F x y S) (k1 : rtP σ σ1 b x y S z1) (k2 : rtP σ1 σ2 b x (σ (b + 6, 8) 0) (S - z1) z2) (k3 : rtP σ2 τ b (σ (b + 6, 9) 0) y (S - z1) z3) : ∃ F', 0 ≤ F' ∧ mfV τ b F' := by
  have f1 := rt_fr k1
  have f2 := rt_fr k2
  have f3 := rt_fr k3
  have f12 := f1.tr f2
  have f13 := f12.tr f3
  have h1 := mv_1 h k1
  obtain ⟨hs, ht, hst⟩ := hE
  have n1 : NetOk σ1 := f1.net hN
  have n2 : NetOk σ2 := f12.net hN
  have n3 : NetOk τ := f13.net hN
  have e8 : σ1 (b + 6, 8) = σ (b + 6, 8) := f1.own 8
  have e9 : σ1 (b + 6, 9) = σ (b + 6, 9) := f1.own 9
  have hz1 := k1.1
  have hz1S := k1.2.2.2.2.2.1 hS
  unfold mvI at h1
  rw [e8, e9] at h1
  generalize hs' : σ (b + 6, 8) 0 = s at *
  generalize ht' : σ (b + 6, 9) 0 = t at *
  have hτ8 : τ (b + 6, 8) 0 = s := by rw [f13.own 8]; exact hs'
  have hτ9 : τ (b + 6, 9) 0 = t := by rw [f13.own 9]; exact ht'
  have hnet3 := fun X => rt_net k3 X
  have hnet2 := fun X => rt_net k2 X
  unfold mfV
  rw [hτ8, hτ9]
  by_cases hl : S - z1 = 0
  · have q2 := k2.2.2.2.2.1 (by omega)
    have q3 := k3.2.2.2.2.1 (by omega)
    refine ⟨F, hF, fun X => ?_⟩
    rw [hnet3, hnet2, h1 X, q2.1, q3.1, hl]
    simp only [ind_0]
    omega
  · have hlp : 0 < S - z1 := by omega
    obtain ⟨X, x1, x2, x3⟩ := (k1.2.2.2.2.2.2 hx hy hxy hS).resolve_left (by omega)
    have c1 := clo_net n1 k1.2.1 x3
    have p1 := co_nn n1 k1.2.1 X
    have hX := h1 X
    rw [ind_t x1, ind_f x2] at hX
    have xs : X s = true := by
      apply Classical.byContradiction
      intro q
      rw [ind_f q] at hX
      have := ind_nn (X := X) (v := t) hF
      omega
    rw [ind_t xs] at hX
    have xt : ¬ X t = true := by
      intro q
      rw [ind_t q] at hX
      omega
    rw [ind_f xt] at hX
    have hFl : S - z1 ≤ F := by omega
    -- the second route
    have r2 : ∀ Y, net σ2 b Y = ind Y s (F - (S - z1)) - ind Y t F + ind Y y (S - z1) := by
      by_cases hxs : x = s
      · have q2 := k2.2.2.2.2.1 (by omega)
        intro Y
        rw [hnet2, h1 Y, q2.1, hxs]
        simp only [ind_0, ind_sub]
        omega
      · have hz2 : z2 = S - z1 := by
          rcases k2.2.2.2.2.2.2 hx hs.1 hxs hlp with q | ⟨Y, y1, y2, y3⟩
          · exact q
          · have hz2p := k2.1
            have hz2l := k2.2.2.2.2.2.1 hlp
            have cX : clo σ2 b X := net_clo n2 k2.2.1 (by
              rw [hnet2, cpo_same (f2.of 0 1) (f2.of 0 2) (f2.of 0 3) (f2.own 2), ← c1, ind_t x1, ind_t xs]
              omega)
            have cXY := clo_net n2 k2.2.1 (clo_and cX y3)
            have pXY := co_nn n2 k2.2.1 (fun v => X v && Y v)
            rw [hnet2, h1] at cXY
            rw [ind_f (X := fun v => X v && Y v) (v := s) (by simp [y2]), ind_f (X := fun v => X v && Y v) (v := t) (by simp [xt]), ind_t (X := fun v => X v && Y v) (v := x) (by simp [x1, y1]), ind_f (X := fun v => X v && Y v) (v := y) (by simp [x2]), ind_t (X := fun v => X v && Y v) (v := x) (by simp [x1, y1]), ind_f (X := fun v => X v && Y v) (v := s) (by simp [y2])] at cXY
            omega
        intro Y
        rw [hnet2, h1 Y, hz2]
        simp only [ind_sub]
        omega
    refine ⟨F - (S - z1), by omega, fun Y => ?_⟩
    by_cases hty : t = y
    · have q3 := k3.2.2.2.2.1 (by omega)
      rw [hnet3, r2 Y, q3.1, ← hty]
      simp only [ind_0, ind_sub]
      omega
    · have hz3 : z3 = S - z1 := by
        rcases k3.2.2.2.2.2.2 ht.1 hy hty hlp with q | ⟨Z, w1, w2, w3⟩
        · exact q
        · have hz3p := k3.1
          have hz3l := k3.2.2.2.2.2.1 hlp
          have cX : clo τ b X := net_clo n3 k3.2.1 (by
            rw [hnet3, cpo_same (f3.of 0 1) (f3.of 0 2) (f3.of 0 3) (f3.own 2), cpo_same (f2.of 0 1) (f2.of 0 2) (f2.of 0 3) (f2.own 2), ← c1, r2, ind_t xs, ind_f xt, ind_f x2, ind_f xt, ind_f x2]
            omega)
          have cXZ := clo_net n3 k3.2.1 (clo_or cX w3)
          have pXZ := co_nn n3 k3.2.1 (fun v => X v || Z v)
          rw [hnet3, r2] at cXZ
          rw [ind_t (X := fun v => X v || Z v) (v := s) (by simp [xs]), ind_t (X := fun v => X v || Z v) (v := t) (by simp [w1]), ind_f (X := fun v => X v || Z v) (v := y) (by simp [x2, w2]), ind_t (X := fun v => X v || Z v) (v := t) (by simp [w1]), ind_f (X := fun v => X v || Z v) (v := y) (by simp [x2, w2])] at cXZ
          omega
      rw [hnet3, r2 Y, hz3]
      simp only [ind_sub]
      omega
/-- a capacity, and what flows over its arc, made less -/
theorem mv_start {σ τ : Mem} {b : Nat} {F a c : Int} (ha : 0 ≤ a ∧ a < σ (0, 1) 0) (hV : mfV σ b F) (e1 : τ (0, 1) = σ (0, 1)) (e2 : τ (0, 2) = σ (0, 2)) (e3 : τ (0, 3) = σ (0, 3)) (e8 : τ (b + 6, 8) = σ (b + 6, 8)) (e9 : τ (b + 6, 9) = σ (b + 6, 9)) (e4 : ∀ j, τ (b + 6, 3) j = if j = a then c else σ (b + 6, 3) j) : mvI τ b F (σ (0, 2) a) (σ (0, 3) a) (σ (b + 6, 3) a - c) := fun X => by
  rw [net_send (σ := σ) (τ := τ) (x := c - σ (b + 6, 3) a) ha e1 e2 e3 (fun j => by rw [e4 j]; split <;> omega), hV X, e8, e9]
  simp only [ind_sub]
  omega
theorem net_zero {σ : Mem} {b : Nat} (hm : 0 ≤ σ (0, 1) 0) (h : ∀ a, 0 ≤ a → a < σ (0, 1) 0 → σ (b + 6, 3) a = 0) (X : Int → Bool) : net σ b X = 0 := by
  unfold net
  rw [sm_cong (g := fun _ => 0) (fun a a1 a2 => by unfold nf; rw [h a a1 (by omega), ind_0, ind_0]; rfl), sm_zero]
/-- the value, read at the source -/
theorem net_at {σ : Mem} {b : Nat} {s : Int} : net σ b (fun v => decide (v = s)) = sm (fun a => (if σ (0, 2) a = s then σ (b + 6, 3) a else 0) - (if σ (0, 3) a = s then σ (b + 6, 3) a else 0)) (σ (0, 1) 0).toNat := by
  unfold net
  refine sm_cong fun a _ _ => ?_
  unfold nf ind
  simp only [decide_eq_true_eq]
