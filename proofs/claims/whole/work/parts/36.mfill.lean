/-! THE REFERENCE: flows along paths -/
def parF (σ : Mem) (v : Int) : Int := if σ (4, 18) v % 2 = 0 then σ (4, 4) (σ (4, 18) v / 2) else σ (4, 5) (σ (4, 18) v / 2)
def rsF (σ : Mem) (v : Int) : Int := if σ (4, 18) v % 2 = 0 then σ (4, 16) (σ (4, 18) v / 2) else σ (4, 17) (σ (4, 18) v / 2)
theorem ind_neg (X : Int → Bool) (v x : Int) : ind X v (-x) = -ind X v x := by unfold ind; split <;> omega
theorem par_in {σ : Mem} {u v q : Int} {rk : Int → Int} (hN : mNet σ) (hT : trT σ u rk q) (hv : 0 ≤ v ∧ v < 24) (hm : mkd σ v = true) (hu : v ≠ u) : (0 ≤ σ (4, 18) v ∧ σ (4, 18) v < 160 ∧ σ (4, 18) v / 2 < σ (4, 3) 0) ∧ (0 ≤ parF σ v ∧ parF σ v < 24) ∧ mkd σ (parF σ v) = true ∧ rk (parF σ v) < rk v ∧ 0 < rsF σ v := by
  obtain ⟨⟨a1, a2⟩, a3⟩ := hT.2.2.1 v hv.1 hv.2 hm hu
  have hn := hN.1
  have hm2 := hN.2.1
  have hNa := hN.2.2 (σ (4, 18) v / 2) (by omega) a2
  unfold parF rsF
  rcases a3 with ⟨b1, b2, b3, b4, b5⟩ | ⟨b1, b2, b3, b4, b5⟩
  · rw [if_pos b1, if_pos b1]
    exact ⟨⟨a1, by omega, a2⟩, ⟨hNa.1.1, by omega⟩, b4, b5, b3⟩
  · rw [if_neg (by omega), if_neg (by omega)]
    exact ⟨⟨a1, by omega, a2⟩, ⟨hNa.2.1.1, by omega⟩, b4, b5, b3⟩
/-- the way back to the start, first -/
def p1I (σ : Mem) (u t : Int) (V : Int → Bool) (L v y : Int) : Prop := (1 ≤ y ∧ y ≤ L) ∧ V t = true ∧ (V v = true ∧ 0 ≤ v ∧ v < 24 ∧ mkd σ v = true) ∧ (∀ w, V w = true → 0 ≤ w ∧ w < 24 ∧ mkd σ w = true) ∧ ∀ w, V w = true → w = v ∨ (w ≠ u ∧ y ≤ rsF σ w ∧ V (parF σ w) = true)
theorem p1_0 {σ : Mem} {u t L : Int} (ht : 0 ≤ t ∧ t < 24) (hm : mkd σ t = true) (hL : 1 ≤ L) : p1I σ u t (fun w => decide (w = t)) L t L := by
  refine ⟨⟨hL, Int.le_refl _⟩, decide_eq_true rfl, ⟨decide_eq_true rfl, ht.1, ht.2, hm⟩, fun w g => ?_, fun w g => Or.inl (of_decide_eq_true g)⟩
  rw [of_decide_eq_true g]
  exact ⟨ht.1, ht.2, hm⟩
theorem p1_s {σ : Mem} {u t L v y y' q : Int} {V : Int → Bool} {rk : Int → Int} (hN : mNet σ) (hT : trT σ u rk q) (h : p1I σ u t V L v y) (hu : v ≠ u) (hy : (y' = y ∨ y' = rsF σ v) ∧ y' ≤ y ∧ y' ≤ rsF σ v) : p1I σ u t (fun w => V w || decide (w = parF σ v)) L (parF σ v) y' ∧ rk (parF σ v) < rk v ∧ 0 ≤ rk (parF σ v) := by
  obtain ⟨h1, h2, ⟨h3, h4, h5, h6⟩, h7, h8⟩ := h
  obtain ⟨a1, a2, a3, a4, a5⟩ := par_in hN hT ⟨h4, h5⟩ h6 hu
  refine ⟨⟨by omega, b_l h2, ⟨b_r (decide_eq_true rfl), a2.1, a2.2, a3⟩, fun w g => ?_, fun w g => ?_⟩, a4, ((hT.2.1 _ a2.1 a2.2 a3).1).1⟩
  · rw [Bool.or_eq_true] at g
    rcases g with g | g
    · exact h7 w g
    · rw [of_decide_eq_true g]; exact ⟨a2.1, a2.2, a3⟩
  · rw [Bool.or_eq_true] at g
    rcases g with g | g
    · rcases h8 w g with e | ⟨e1, e2, e3⟩
      · rw [e]
        exact Or.inr ⟨hu, hy.2.2, b_r (decide_eq_true rfl)⟩
      · exact Or.inr ⟨e1, by omega, b_l e3⟩
    · exact Or.inl (of_decide_eq_true g)
/-- what is sent along the way -/
def frF (σ τ : Mem) : Prop := ∀ p : Ix, p ≠ (4, 16) → p ≠ (4, 17) → τ p = σ p
def resS (σ τ : Mem) : Prop := ∀ a, 0 ≤ a → a < σ (4, 3) 0 → 0 ≤ τ (4, 16) a ∧ 0 ≤ τ (4, 17) a ∧ τ (4, 16) a + τ (4, 17) a = σ (4, 16) a + σ (4, 17) a
abbrev gnM (σ : Mem) (X : Int → Bool) : Int := gnet (σ (4, 3) 0).toNat (σ (4, 4)) (σ (4, 5)) (σ (4, 17)) X
def p2I (σ ω : Mem) (u t : Int) (V : Int → Bool) (rk : Int → Int) (y v : Int) : Prop := frF σ ω ∧ resS σ ω ∧ V v = true ∧ (∀ X, gnM ω X = gnM σ X + ind X v y - ind X t y) ∧ ∀ w, V w = true → rk w ≤ rk v → w ≠ u → ω (4, 16) (σ (4, 18) w / 2) = σ (4, 16) (σ (4, 18) w / 2) ∧ ω (4, 17) (σ (4, 18) w / 2) = σ (4, 17) (σ (4, 18) w / 2)
theorem p2_0 {σ : Mem} {u t y : Int} {V : Int → Bool} {rk : Int → Int} (hR : mRes σ) (hV : V t = true) : p2I σ σ u t V rk y t := ⟨fun _ _ _ => rfl, fun a a0 a1 => ⟨(hR a a0 a1).1, (hR a a0 a1).2.1, rfl⟩, hV, fun X => by omega, fun _ _ _ _ => ⟨rfl, rfl⟩⟩
theorem gn_upd {σ τ : Mem} {a x : Int} {X : Int → Bool} (ha : 0 ≤ a ∧ a < σ (4, 3) 0) (e3 : τ (4, 3) = σ (4, 3)) (e4 : τ (4, 4) = σ (4, 4)) (e5 : τ (4, 5) = σ (4, 5)) (e : ∀ j, τ (4, 17) j = if j = a then σ (4, 17) a + x else σ (4, 17) j) : gnM τ X = gnM σ X + ind X (σ (4, 4) a) x - ind X (σ (4, 5) a) x := by
  unfold gnM gnet
  rw [e3, e4, e5]
  have h1 : sm (fun j => ind X (σ (4, 4) j) (τ (4, 17) j) - ind X (σ (4, 5) j) (τ (4, 17) j)) (σ (4, 3) 0).toNat = sm (fun j => if j = a then (ind X (σ (4, 4) a) (σ (4, 17) a) - ind X (σ (4, 5) a) (σ (4, 17) a)) + ind X (σ (4, 4) a) x - ind X (σ (4, 5) a) x else ind X (σ (4, 4) j) (σ (4, 17) j) - ind X (σ (4, 5) j) (σ (4, 17) j)) (σ (4, 3) 0).toNat := by
    refine sm_cong fun j j0 j1 => ?_
    show ind X (σ (4, 4) j) (τ (4, 17) j) - ind X (σ (4, 5) j) (τ (4, 17) j) = _
    rw [e j]
    by_cases h : j = a
    · subst h
      rw [if_pos rfl, if_pos rfl, ind_add, ind_add]; omega
    · rw [if_neg h, if_neg h]
  rw [h1, sm_upd (fun j => ind X (σ (4, 4) j) (σ (4, 17) j) - ind X (σ (4, 5) j) (σ (4, 17) j)) ha.1 (by omega)]
  omega
theorem p2_s {σ ω σ1 τ : Mem} {u t L v y x q : Int} {v1 : Int} {V : Int → Bool} {rk : Int → Int} (hN : mNet σ) (hT : trT σ u rk q) (h1 : p1I σ u t V L v1 y) (hv1 : v1 = u) (h : p2I σ ω u t V rk y v) (hu : v ≠ u) (hx : (σ (4, 18) v % 2 = 0 ∧ x = y) ∨ (σ (4, 18) v % 2 = 1 ∧ x = -y))
    (e1 : mset ω (4, 16) (σ (4, 18) v / 2) (ω (4, 16) (σ (4, 18) v / 2) - x) = σ1) (e2 : mset σ1 (4, 17) (σ (4, 18) v / 2) (σ1 (4, 17) (σ (4, 18) v / 2) + x) = τ) : p2I σ τ u t V rk y (parF σ v) ∧ rk (parF σ v) < rk v ∧ 0 ≤ rk (parF σ v) := by
  obtain ⟨f, r, hV, g, o⟩ := h
  obtain ⟨w1, w2, w3, w4, w5⟩ := h1
  obtain ⟨i1, i2, i3⟩ := w4 v hV
  obtain ⟨a1, a2, a3, a4, a5⟩ := par_in hN hT ⟨i1, i2⟩ i3 hu
  obtain ⟨-, z2, z3⟩ := (w5 v hV).resolve_left (fun e => hu (e.trans hv1))
  obtain ⟨o1, o2⟩ := o v hV (Int.le_refl _) hu
  have hp := (hT.2.2.1 v i1 i2 i3 hu).2
  obtain ⟨a, ha⟩ : ∃ a, a = σ (4, 18) v / 2 := ⟨_, rfl⟩
  have pE : σ (4, 18) v % 2 = 0 → parF σ v = σ (4, 4) a ∧ rsF σ v = σ (4, 16) a := fun g => by
    unfold parF rsF
    rw [if_pos g, if_pos g, ha]
    exact ⟨rfl, rfl⟩
  have pO : σ (4, 18) v % 2 = 1 → parF σ v = σ (4, 5) a ∧ rsF σ v = σ (4, 17) a := fun g => by
    unfold parF rsF
    rw [if_neg (by omega), if_neg (by omega), ha]
    exact ⟨rfl, rfl⟩
  rw [← ha] at o1 o2 hp e1 e2
  have f16 : ∀ j, τ (4, 16) j = if j = a then ω (4, 16) a - x else ω (4, 16) j := fun j => by rw [← e2, mset_id (by decide), ← e1, mset_at]
  have f17 : ∀ j, τ (4, 17) j = if j = a then ω (4, 17) a + x else ω (4, 17) j := fun j => by rw [← e2, mset_at, ← e1, mset_id (by decide)]
  have ff : ∀ p : Ix, p ≠ (4, 16) → p ≠ (4, 17) → τ p = ω p := fun p p1 p2 => by rw [← e2, mset_id p2, ← e1, mset_id p1]
  have ha0 : 0 ≤ a ∧ a < σ (4, 3) 0 := by omega
  have hω3 : ω (4, 3) = σ (4, 3) := f _ (by decide) (by decide)
  have hω4 : ω (4, 4) = σ (4, 4) := f _ (by decide) (by decide)
  have hω5 : ω (4, 5) = σ (4, 5) := f _ (by decide) (by decide)
  have hra := r a ha0.1 ha0.2
  refine ⟨⟨fun p p1 p2 => (ff p p1 p2).trans (f p p1 p2), fun j j0 j1 => ?_, z3, fun X => ?_, fun w hw hr hwu => ?_⟩, a4, ((hT.2.1 _ a2.1 a2.2 a3).1).1⟩
  · rw [f16, f17]
    by_cases e : j = a
    · rw [if_pos e, if_pos e, e]
      rcases hx with ⟨x1, x2⟩ | ⟨x1, x2⟩
      · rw [(pE x1).2] at z2; omega
      · rw [(pO x1).2] at z2; omega
    · rw [if_neg e, if_neg e]
      exact r j j0 j1
  · rw [gn_upd (σ := ω) (τ := τ) (a := a) (x := x) (by rw [hω3]; exact ha0) (ff _ (by decide) (by decide)) (ff _ (by decide) (by decide)) (ff _ (by decide) (by decide)) f17, g X, hω4, hω5]
    rcases hx with ⟨x1, x2⟩ | ⟨x1, x2⟩
    · rcases hp with hp | hp
      · rw [(pE x1).1, hp.2.1, x2]; omega
      · omega
    · rcases hp with hp | hp
      · omega
      · rw [(pO x1).1, hp.2.1, x2, ind_neg, ind_neg]; omega
  · obtain ⟨j1, j2, j3⟩ := w4 w hw
    have hwv : rk w < rk v := by omega
    have hne : σ (4, 18) w / 2 ≠ a := fun e => by
      have hpw := (hT.2.2.1 w j1 j2 j3 hwu).2
      rw [e] at hpw
      rcases hp with hp | hp <;> rcases hpw with hpw | hpw
      · have : w = v := hpw.2.1.symm.trans hp.2.1
        rw [this] at hwv; omega
      · have q1 : rk (σ (4, 5) a) < rk w := hpw.2.2.2.2
        rw [hp.2.1] at q1; omega
      · have q1 : rk (σ (4, 4) a) < rk w := hpw.2.2.2.2
        rw [hp.2.1] at q1; omega
      · have : w = v := hpw.2.1.symm.trans hp.2.1
        rw [this] at hwv; omega
    rw [f16, f17, if_neg hne, if_neg hne]
    exact o w hw (by omega) hwu
/-- filling -/
def frX (σ τ : Mem) : Prop := ∀ p : Ix, p ∉ [((4, 16) : Ix), (4, 17), (4, 18), (4, 19)] → τ p = σ p
def fiI (σ υ : Mem) (u t L s : Int) : Prop := frX σ υ ∧ resS σ υ ∧ (0 ≤ s ∧ s ≤ L) ∧ ∀ X, gnM υ X = gnM σ X + ind X u s - ind X t s
def fiP (σ τ : Mem) (u t L z : Int) : Prop := fiI σ τ u t L z ∧ (z = L ∨ ∃ X : Int → Bool, X u = true ∧ ¬ X t = true ∧ rcl τ X)
theorem frX.net {σ τ : Mem} (f : frX σ τ) (h : mNet σ) : mNet τ := by
  unfold mNet at h ⊢
  rw [f (4, 2) (by decide), f (4, 3) (by decide), f (4, 4) (by decide), f (4, 5) (by decide)]
  exact h
theorem fi_res {σ υ : Mem} (f : frX σ υ) (r : resS σ υ) (h : mRes σ) : mRes υ := fun a a0 a1 => by
  rw [f (4, 3) (by decide)] at a1
  have := r a a0 a1
  have := h a a0 a1
  omega
theorem fi_0 {σ : Mem} {u t L : Int} (hR : mRes σ) (hL : 0 ≤ L) : fiI σ σ u t L 0 := ⟨fun _ _ => rfl, fun a a0 a1 => ⟨(hR a a0 a1).1, (hR a a0 a1).2.1, rfl⟩, ⟨Int.le_refl _, hL⟩, fun X => by rw [ind_0, ind_0]; omega⟩
theorem fi_rh {σ υ τ : Mem} {u t L s : Int} (h : fiI σ υ u t L s) (f : frR υ τ) : fiI σ τ u t L s := by
  obtain ⟨h1, h2, h3, h4⟩ := h
  have e3 : τ (4, 3) = υ (4, 3) := f _ (by decide) (by decide)
  have e4 : τ (4, 4) = υ (4, 4) := f _ (by decide) (by decide)
  have e5 : τ (4, 5) = υ (4, 5) := f _ (by decide) (by decide)
  have e16 : τ (4, 16) = υ (4, 16) := f _ (by decide) (by decide)
  have e17 : τ (4, 17) = υ (4, 17) := f _ (by decide) (by decide)
  refine ⟨fun p hp => ?_, ?_, h3, fun X => ?_⟩
  · simp only [List.mem_cons, List.not_mem_nil, or_false, not_or] at hp
    rw [f p hp.2.2.1 hp.2.2.2]
    exact h1 p (by simp only [List.mem_cons, List.not_mem_nil, or_false, not_or]; exact hp)
  · unfold resS
    rw [e16, e17]
    exact h2
  · unfold gnM
    rw [e3, e4, e5, e17]
    exact h4 X
theorem fi_s {σ τ ω : Mem} {u t L s y : Int} {V : Int → Bool} {rk : Int → Int} {v : Int} (h : fiI σ τ u t L s) (hy : 1 ≤ y ∧ y ≤ L - s) (k : p2I τ ω u t V rk y v) (hv : v = u) : fiI σ ω u t L (s + y) := by
  obtain ⟨h1, h2, h3, h4⟩ := h
  obtain ⟨k1, k2, -, k4, -⟩ := k
  have e3 : τ (4, 3) = σ (4, 3) := h1 _ (by decide)
  refine ⟨fun p hp => ?_, fun a a0 a1 => ?_, by omega, fun X => ?_⟩
  · have := h1 p hp
    simp only [List.mem_cons, List.not_mem_nil, or_false, not_or] at hp
    rw [k1 p hp.1 hp.2.1, this]
  · have q1 := h2 a a0 a1
    have q2 := k2 a a0 (by rw [e3]; exact a1)
    omega
  · rw [k4 X, h4 X, hv, ind_add, ind_add]
    omega
theorem frF.net {σ τ : Mem} (f : frF σ τ) (h : mNet σ) : mNet τ := by
  unfold mNet at h ⊢
  rw [f (4, 2) (by decide) (by decide), f (4, 3) (by decide) (by decide), f (4, 4) (by decide) (by decide), f (4, 5) (by decide) (by decide)]
  exact h

set_option maxHeartbeats 4000000 in
set_option maxRecDepth 100000 in
theorem c_X7_before (l : Launch) (D : va_G) (cs : Nat → ClassId) (ad : Ix → Nat) (hap : Apart idsM ad) {σ : Mem} (hN : mNet σ) {v : Int} (hv : 0 ≤ v ∧ v < 24) (hb : 0 ≤ σ (4, 18) v ∧ σ (4, 18) v < 160 ∧ σ (4, 18) v / 2 < σ (4, 3) 0) : CI l D cs idsM ad yX7_before cX7_before 2 .int 0 [(.ref (ad (4, 0))), (jI v)] σ (fun z τ => τ = σ ∧ z = parF σ v) := by
  refine CI.of RX7 hap idsM_nd (by decide) rfl (Nat.le_of_ble_eq_true rfl) ?_
  intro pg ev s0 mi av bl mt cd X K hr
  have hm := hN.2.1
  refine zr_aloadn X dX7_before_0 rfl ?_
  refine zr_get X K (C := RX7) (T := TX7) (N := 20) (k := 17) mM_0 rfl rfl ti_7 (by decide) rfl tw_717 rfl dX7_before_1 ?_
  refine zr_iloadn X dX7_before_4 rfl ?_
  refine zr_iald X K (n := 24) mM_18 rfl (by decide) (by omega) dX7_before_5 ?_
  refine zr_iconst X dX7_before_6 ?_
  refine zr_irem X dX7_before_7 (by decide) (zb_rem2 ⟨by omega, by omega⟩) ?_
  refine zr_if_ne X 27 dX7_before_8 (by decide) ⟨by omega, by omega⟩ (fun t_8 => ?_) (fun f_8 => ?_)
  · refine zr_aloadn X dX7_before_27 rfl ?_
    refine zr_get X K (C := RX7) (T := TX7) (N := 20) (k := 4) mM_0 rfl rfl ti_7 (by decide) rfl tw_704 rfl dX7_before_28 ?_
    refine zr_aloadn X dX7_before_31 rfl ?_
    refine zr_get X K (C := RX7) (T := TX7) (N := 20) (k := 17) mM_0 rfl rfl ti_7 (by decide) rfl tw_717 rfl dX7_before_32 ?_
    refine zr_iloadn X dX7_before_35 rfl ?_
    refine zr_iald X K (n := 24) mM_18 rfl (by decide) (by omega) dX7_before_36 ?_
    refine zr_iconst X dX7_before_37 ?_
    refine zr_idiv X dX7_before_38 (by decide) (zb_div2 ⟨by omega, by omega⟩) ?_
    refine zr_iald X K (n := 80) mM_5 rfl (by decide) (by omega) dX7_before_39 ?_
    refine zr_iret X hr dX7_before_40 ?_
    exact ⟨rfl, (if_neg (by omega)).symm⟩
  · refine zr_aloadn X dX7_before_11 rfl ?_
    refine zr_get X K (C := RX7) (T := TX7) (N := 20) (k := 3) mM_0 rfl rfl ti_7 (by decide) rfl tw_703 rfl dX7_before_12 ?_
    refine zr_aloadn X dX7_before_15 rfl ?_
    refine zr_get X K (C := RX7) (T := TX7) (N := 20) (k := 17) mM_0 rfl rfl ti_7 (by decide) rfl tw_717 rfl dX7_before_16 ?_
    refine zr_iloadn X dX7_before_19 rfl ?_
    refine zr_iald X K (n := 24) mM_18 rfl (by decide) (by omega) dX7_before_20 ?_
    refine zr_iconst X dX7_before_21 ?_
    refine zr_idiv X dX7_before_22 (by decide) (zb_div2 ⟨by omega, by omega⟩) ?_
    refine zr_iald X K (n := 80) mM_4 rfl (by decide) (by omega) dX7_before_23 ?_
    refine zr_goto X 40 dX7_before_24 (by decide) ?_
    refine zr_iret X hr dX7_before_40 ?_
    exact ⟨rfl, (if_pos (by omega)).symm⟩

set_option maxHeartbeats 4000000 in
set_option maxRecDepth 100000 in
theorem c_X7_fill (l : Launch) (D : va_G) (cs : Nat → ClassId) (ad : Ix → Nat) (hap : Apart idsM ad) {σ : Mem} (hN : mNet σ) (hR : mRes σ) {u t L : Int} (hu : 0 ≤ u ∧ u < σ (4, 2) 0) (ht : 0 ≤ t ∧ t < σ (4, 2) 0) (hut : u ≠ t) (hL : 0 ≤ L ∧ L ≤ 200000000) : CI l D cs idsM ad yX7_fill cX7_fill 8 .int 1 [(.ref (ad (4, 0))), (jI u), (jI t), (jI L)] σ (fun z τ => fiP σ τ u t L z) := by
  refine CI.of RX7 hap idsM_nd (by decide) rfl (Nat.le_of_ble_eq_true rfl) ?_
  intro pg ev s0 mi av bl mt cd X K hr
  have hn := hN.1
  have hm := hN.2.1
  refine zr_iconst X dX7_fill_0 ?_
  refine zr_istore X dX7_fill_1 (by decide) rfl ?_
  have loop_3 : ∀ (n_3 : Nat) (s : Int) (υ : Mem), (fiI σ υ u t L s) → (L - s).toNat < n_3 → Wx pg l ev (rmm 1 0 0) s0 mi av bl mt cd D cs idsM ad (Rg idsM ad) s0.heap 8 (MQ bl (qI D cs idsM ad ((fun z τ => fiP σ τ u t L z))) av s0 0 0 (Rg idsM ad)) 0 0 υ 3 [some (.ref (ad (4, 0))), some (jI u), some (jI t), some (jI L), some (jI s), none, none, none] [] := by
    intro n_3
    induction n_3 with
    | zero => exact fun s υ hinv hn => absurd hn (Nat.not_lt_zero _)
    | succ n_3 ih_3 =>
      intro s υ hI_3 hn_3
      have hs0 := hI_3.2.2.1
      have hN1 := hI_3.1.net hN
      have hR1 := fi_res hI_3.1 hI_3.2.1 hR
      have g2 : υ (4, 2) 0 = σ (4, 2) 0 := congrFun (hI_3.1 (4, 2) (by decide)) 0
      refine zr_iload X dX7_fill_3 rfl ?_
      refine zr_iloadn X dX7_fill_5 rfl ?_
      refine zr_icmp_ge X 184 dX7_fill_6 (by decide) ⟨by omega, by omega⟩ ⟨by omega, by omega⟩ (fun t_6 => ?_) (fun f_6 => ?_)
      · refine zr_iload X dX7_fill_184 rfl ?_
        refine zr_iret X hr dX7_fill_186 ?_
        exact ⟨hI_3, Or.inl (by omega)⟩
      · refine zr_aloadn X dX7_fill_9 rfl ?_
        refine zr_iloadn X dX7_fill_10 rfl ?_
        refine zr_iloadn X dX7_fill_11 rfl ?_
        refine zr_callVI X K (q := (RX7, TX7, 20)) (st := []) (c_X7_reach l D cs ad hap (σ := υ) hN1 hR1 (u := u) (t := t) (by omega) (by omega)) ⟨tw_858, tw_860, tp_44, tw_8, tw_861⟩ dc_X7_reach mM_0 rfl rfl rfl rfl rfl (Nat.le_of_ble_eq_true rfl) (by decide) dX7_fill_12 ?_
        intro z τ hrh
        obtain ⟨⟨hfr, ⟨rk, q, hT, hq24⟩, hcl⟩, hz01, hz⟩ := hrh
        refine zr_if_eq X 184 dX7_fill_15 (by decide) (by rcases hz01 with q | q <;> exact ⟨by omega, by omega⟩) (fun t_15 => ?_) (fun f_15 => ?_)
        · refine zr_iload X dX7_fill_184 rfl ?_
          refine zr_iret X hr dX7_fill_186 ?_
          exact ⟨fi_rh hI_3 hfr, Or.inr ⟨mkd τ, hT.root, fun g => absurd (hz.mpr g) (by omega), hcl⟩⟩
        · have hmt : mkd τ t = true := hz.mp (by omega)
          have hI2 := fi_rh hI_3 hfr
          have hN2 := hfr.net hN1
          have hR2 := hfr.res hR1
          have g3 : τ (4, 3) 0 = σ (4, 3) 0 := congrFun (hI2.1 (4, 3) (by decide)) 0
          refine zr_iloadn X dX7_fill_18 rfl ?_
          refine zr_iload X dX7_fill_19 rfl ?_
          refine zr_isub X dX7_fill_21 ?_
          refine zr_istore X dX7_fill_22 (by decide) rfl ?_
          refine zr_iloadn X dX7_fill_24 rfl ?_
          refine zr_istore X dX7_fill_25 (by decide) rfl ?_
          have loop_27 : ∀ (n_27 : Nat) (v : Int) (y : Int) (V : Int → Bool), (p1I τ u t V (L - s) v y) → (rk v).toNat < n_27 → Wx pg l ev (rmm 1 0 0) s0 mi av bl mt cd D cs idsM ad (Rg idsM ad) s0.heap 8 (MQ bl (qI D cs idsM ad ((fun z τ => fiP σ τ u t L z))) av s0 0 0 (Rg idsM ad)) 0 0 τ 27 [some (.ref (ad (4, 0))), some (jI u), some (jI t), some (jI L), some (jI s), some (jI y), some (jI v), none] [] := by
            intro n_27
            induction n_27 with
            | zero => exact fun v y V hinv hn => absurd hn (Nat.not_lt_zero _)
            | succ n_27 ih_27 =>
              intro v y V hI_27 hn_27
              have hv0 := hI_27.2.2.1.2
              have hv0 : 0 ≤ v ∧ v < 24 := ⟨hv0.1, hv0.2.1⟩
              have hy0 := hI_27.1
              refine zr_iload X dX7_fill_27 rfl ?_
              refine zr_iloadn X dX7_fill_29 rfl ?_
              refine zr_icmp_eq X 94 dX7_fill_30 (by decide) ⟨by omega, by omega⟩ ⟨by omega, by omega⟩ (fun t_30 => ?_) (fun f_30 => ?_)
              · refine zr_iloadn X dX7_fill_94 rfl ?_
                refine zr_istore X dX7_fill_95 (by decide) rfl ?_
                have loop_97 : ∀ (n_97 : Nat) (v : Int) (ω : Mem), (p2I τ ω u t V rk y v) → (rk v).toNat < n_97 → Wx pg l ev (rmm 1 0 0) s0 mi av bl mt cd D cs idsM ad (Rg idsM ad) s0.heap 8 (MQ bl (qI D cs idsM ad ((fun z τ => fiP σ τ u t L z))) av s0 0 0 (Rg idsM ad)) 0 0 ω 97 [some (.ref (ad (4, 0))), some (jI u), some (jI t), some (jI L), some (jI s), some (jI y), some (jI v), none] [] := by
                  intro n_97
                  induction n_97 with
                  | zero => exact fun v ω hinv hn => absurd hn (Nat.not_lt_zero _)
                  | succ n_97 ih_97 =>
                    intro v ω hI_97 hn_97
                    have hw0 := hI_27.2.2.2.1 v hI_97.2.2.1
                    have hv0 : 0 ≤ v ∧ v < 24 := ⟨hw0.1, hw0.2.1⟩
                    have x18 : ω (4, 18) = τ (4, 18) := hI_97.1 _ (by decide) (by decide)
                    have x3 : ω (4, 3) 0 = τ (4, 3) 0 := congrFun (hI_97.1 (4, 3) (by decide) (by decide)) 0
                    have x18v := congrFun x18 v
                    refine zr_iload X dX7_fill_97 rfl ?_
                    refine zr_iloadn X dX7_fill_99 rfl ?_
                    refine zr_icmp_eq X 174 dX7_fill_100 (by decide) ⟨by omega, by omega⟩ ⟨by omega, by omega⟩ (fun t_100 => ?_) (fun f_100 => ?_)
                    · refine zr_iload X dX7_fill_174 rfl ?_
                      refine zr_iload X dX7_fill_176 rfl ?_
                      refine zr_iadd X dX7_fill_178 ?_
                      refine zr_istore X dX7_fill_179 (by decide) rfl ?_
                      refine zr_goto X 3 dX7_fill_181 (by decide) ?_
                      refine Wx.weak (lo' := [some (.ref (ad (4, 0))), some (jI u), some (jI t), some (jI L), some (jI (s + y)), none, none, none]) ⟨rfl, rfl, rfl, rfl, rfl, trivial⟩ ?_
                      exact ih_3 _ _ (fi_s hI2 ⟨by omega, by omega⟩ hI_97 (by omega)) (by omega)
                    · have hpi := par_in hN2 hT hv0 hw0.2.2 (by omega)
                      have hb1 := hpi.1
                      have hrv := (hT.2.1 v hv0.1 hv0.2 hw0.2.2).1
                      have hRa := hI_97.2.1 (τ (4, 18) v / 2) (by omega) (by omega)
                      refine zr_aloadn X dX7_fill_103 rfl ?_
                      refine zr_get X K (C := RX7) (T := TX7) (N := 20) (k := 17) mM_0 rfl rfl ti_7 (by decide) rfl tw_717 rfl dX7_fill_104 ?_
                      refine zr_iload X dX7_fill_107 rfl ?_
                      refine zr_iald X K (n := 24) mM_18 rfl (by decide) (by omega) dX7_fill_109 ?_
                      refine zr_iconst X dX7_fill_110 ?_
                      refine zr_irem X dX7_fill_111 (by decide) (zb_rem2 ⟨by omega, by omega⟩) ?_
                      refine zr_if_ne X 120 dX7_fill_112 (by decide) ⟨by omega, by omega⟩ (fun t_112 => ?_) (fun f_112 => ?_)
                      · refine zr_iload X dX7_fill_120 rfl ?_
                        refine zr_ineg X dX7_fill_122 ?_
                        refine zr_istore X dX7_fill_123 (by decide) rfl ?_
                        refine zr_aloadn X dX7_fill_125 rfl ?_
                        refine zr_get X K (C := RX7) (T := TX7) (N := 20) (k := 15) mM_0 rfl rfl ti_7 (by decide) rfl tw_715 rfl dX7_fill_126 ?_
                        refine zr_aloadn X dX7_fill_129 rfl ?_
                        refine zr_get X K (C := RX7) (T := TX7) (N := 20) (k := 17) mM_0 rfl rfl ti_7 (by decide) rfl tw_717 rfl dX7_fill_130 ?_
                        refine zr_iload X dX7_fill_133 rfl ?_
                        refine zr_iald X K (n := 24) mM_18 rfl (by decide) (by omega) dX7_fill_135 ?_
                        refine zr_iconst X dX7_fill_136 ?_
                        refine zr_idiv X dX7_fill_137 (by decide) (zb_div2 ⟨by omega, by omega⟩) ?_
                        refine zr_dup2 X dX7_fill_138 rfl rfl ?_
                        refine zr_iald X K (n := 80) mM_16 rfl (by decide) (by omega) dX7_fill_139 ?_
                        refine zr_iload X dX7_fill_140 rfl ?_
                        refine zr_isub X dX7_fill_142 ?_
                        refine zr_iast X K (n := 80) mM_16 (fun _ => rfl) rfl (by decide) (by omega) dX7_fill_143 ?_
                        generalize hm_σ1 : mset ω (4, 16) (ω (4, 18) v / 2) ((ω (4, 16) (ω (4, 18) v / 2)) - (-y)) = σ1
                        have y18 : σ1 (4, 18) v = τ (4, 18) v := by rw [← hm_σ1, mset_id (by decide), x18]
                        refine zr_aloadn X dX7_fill_144 rfl ?_
                        refine zr_get X K (C := RX7) (T := TX7) (N := 20) (k := 16) mM_0 rfl rfl ti_7 (by decide) rfl tw_716 rfl dX7_fill_145 ?_
                        refine zr_aloadn X dX7_fill_148 rfl ?_
                        refine zr_get X K (C := RX7) (T := TX7) (N := 20) (k := 17) mM_0 rfl rfl ti_7 (by decide) rfl tw_717 rfl dX7_fill_149 ?_
                        refine zr_iload X dX7_fill_152 rfl ?_
                        refine zr_iald X K (n := 24) mM_18 rfl (by decide) (by omega) dX7_fill_154 ?_
                        refine zr_iconst X dX7_fill_155 ?_
                        refine zr_idiv X dX7_fill_156 (by decide) (zb_div2 ⟨by omega, by omega⟩) ?_
                        refine zr_dup2 X dX7_fill_157 rfl rfl ?_
                        refine zr_iald X K (n := 80) mM_17 rfl (by decide) (by omega) dX7_fill_158 ?_
                        refine zr_iload X dX7_fill_159 rfl ?_
                        refine zr_iadd X dX7_fill_161 ?_
                        refine zr_iast X K (n := 80) mM_17 (fun _ => rfl) rfl (by decide) (by omega) dX7_fill_162 ?_
                        generalize hm_σ2 : mset σ1 (4, 17) (σ1 (4, 18) v / 2) ((σ1 (4, 17) (σ1 (4, 18) v / 2)) + (-y)) = σ2
                        rw [x18v] at hm_σ1
                        rw [y18] at hm_σ2
                        have hps := p2_s (σ1 := σ1) (τ := σ2) hN2 hT hI_27 (by omega) hI_97 (by omega) (x := -y) (by omega) hm_σ1 hm_σ2
                        have z18 : σ2 (4, 18) = τ (4, 18) := hps.1.1 _ (by decide) (by decide)
                        have zp : parF σ2 v = parF τ v := by
                          unfold parF
                          rw [z18, hps.1.1 (4, 4) (by decide) (by decide), hps.1.1 (4, 5) (by decide) (by decide)]
                        refine zr_aloadn X dX7_fill_163 rfl ?_
                        refine zr_iload X dX7_fill_164 rfl ?_
                        refine zr_callVI X K (q := (RX7, TX7, 20)) (st := []) (c_X7_before l D cs ad hap (σ := σ2) (frF.net hps.1.1 hN2) (v := v) hv0 (by rw [z18, hps.1.1 (4, 3) (by decide) (by decide)]; exact hb1)) ⟨tw_863, tw_865, tp_45, tw_8, tw_866⟩ dc_X7_before mM_0 rfl rfl rfl rfl rfl (Nat.le_of_ble_eq_true rfl) (by decide) dX7_fill_166 ?_
                        intro z_ τ_ hp_
                        obtain ⟨hτ_, hz_⟩ := hp_
                        subst τ_
                        subst z_
                        rw [zp]
                        refine zr_istore X dX7_fill_169 (by decide) rfl ?_
                        refine zr_goto X 97 dX7_fill_171 (by decide) ?_
                        refine Wx.weak (lo' := [some (.ref (ad (4, 0))), some (jI u), some (jI t), some (jI L), some (jI s), some (jI y), some (jI (parF τ v)), none]) ⟨rfl, rfl, rfl, rfl, rfl, rfl, rfl, trivial⟩ ?_
                        exact ih_97 _ _ hps.1 (by omega)
                      · refine zr_iload X dX7_fill_115 rfl ?_
                        refine zr_goto X 123 dX7_fill_117 (by decide) ?_
                        refine zr_istore X dX7_fill_123 (by decide) rfl ?_
                        refine zr_aloadn X dX7_fill_125 rfl ?_
                        refine zr_get X K (C := RX7) (T := TX7) (N := 20) (k := 15) mM_0 rfl rfl ti_7 (by decide) rfl tw_715 rfl dX7_fill_126 ?_
                        refine zr_aloadn X dX7_fill_129 rfl ?_
                        refine zr_get X K (C := RX7) (T := TX7) (N := 20) (k := 17) mM_0 rfl rfl ti_7 (by decide) rfl tw_717 rfl dX7_fill_130 ?_
                        refine zr_iload X dX7_fill_133 rfl ?_
                        refine zr_iald X K (n := 24) mM_18 rfl (by decide) (by omega) dX7_fill_135 ?_
                        refine zr_iconst X dX7_fill_136 ?_
                        refine zr_idiv X dX7_fill_137 (by decide) (zb_div2 ⟨by omega, by omega⟩) ?_
                        refine zr_dup2 X dX7_fill_138 rfl rfl ?_
                        refine zr_iald X K (n := 80) mM_16 rfl (by decide) (by omega) dX7_fill_139 ?_
                        refine zr_iload X dX7_fill_140 rfl ?_
                        refine zr_isub X dX7_fill_142 ?_
                        refine zr_iast X K (n := 80) mM_16 (fun _ => rfl) rfl (by decide) (by omega) dX7_fill_143 ?_
                        generalize hm_σ3 : mset ω (4, 16) (ω (4, 18) v / 2) ((ω (4, 16) (ω (4, 18) v / 2)) - y) = σ3
                        have y18 : σ3 (4, 18) v = τ (4, 18) v := by rw [← hm_σ3, mset_id (by decide), x18]
                        refine zr_aloadn X dX7_fill_144 rfl ?_
                        refine zr_get X K (C := RX7) (T := TX7) (N := 20) (k := 16) mM_0 rfl rfl ti_7 (by decide) rfl tw_716 rfl dX7_fill_145 ?_
                        refine zr_aloadn X dX7_fill_148 rfl ?_
                        refine zr_get X K (C := RX7) (T := TX7) (N := 20) (k := 17) mM_0 rfl rfl ti_7 (by decide) rfl tw_717 rfl dX7_fill_149 ?_
                        refine zr_iload X dX7_fill_152 rfl ?_
                        refine zr_iald X K (n := 24) mM_18 rfl (by decide) (by omega) dX7_fill_154 ?_
                        refine zr_iconst X dX7_fill_155 ?_
                        refine zr_idiv X dX7_fill_156 (by decide) (zb_div2 ⟨by omega, by omega⟩) ?_
                        refine zr_dup2 X dX7_fill_157 rfl rfl ?_
                        refine zr_iald X K (n := 80) mM_17 rfl (by decide) (by omega) dX7_fill_158 ?_
                        refine zr_iload X dX7_fill_159 rfl ?_
                        refine zr_iadd X dX7_fill_161 ?_
                        refine zr_iast X K (n := 80) mM_17 (fun _ => rfl) rfl (by decide) (by omega) dX7_fill_162 ?_
                        generalize hm_σ4 : mset σ3 (4, 17) (σ3 (4, 18) v / 2) ((σ3 (4, 17) (σ3 (4, 18) v / 2)) + y) = σ4
                        rw [x18v] at hm_σ3
                        rw [y18] at hm_σ4
                        have hps := p2_s (σ1 := σ3) (τ := σ4) hN2 hT hI_27 (by omega) hI_97 (by omega) (x := y) (by omega) hm_σ3 hm_σ4
                        have z18 : σ4 (4, 18) = τ (4, 18) := hps.1.1 _ (by decide) (by decide)
                        have zp : parF σ4 v = parF τ v := by
                          unfold parF
                          rw [z18, hps.1.1 (4, 4) (by decide) (by decide), hps.1.1 (4, 5) (by decide) (by decide)]
                        refine zr_aloadn X dX7_fill_163 rfl ?_
                        refine zr_iload X dX7_fill_164 rfl ?_
                        refine zr_callVI X K (q := (RX7, TX7, 20)) (st := []) (c_X7_before l D cs ad hap (σ := σ4) (frF.net hps.1.1 hN2) (v := v) hv0 (by rw [z18, hps.1.1 (4, 3) (by decide) (by decide)]; exact hb1)) ⟨tw_863, tw_865, tp_45, tw_8, tw_866⟩ dc_X7_before mM_0 rfl rfl rfl rfl rfl (Nat.le_of_ble_eq_true rfl) (by decide) dX7_fill_166 ?_
                        intro z_ τ_ hp_
                        obtain ⟨hτ_, hz_⟩ := hp_
                        subst τ_
                        subst z_
                        rw [zp]
                        refine zr_istore X dX7_fill_169 (by decide) rfl ?_
                        refine zr_goto X 97 dX7_fill_171 (by decide) ?_
                        refine Wx.weak (lo' := [some (.ref (ad (4, 0))), some (jI u), some (jI t), some (jI L), some (jI s), some (jI y), some (jI (parF τ v)), none]) ⟨rfl, rfl, rfl, rfl, rfl, rfl, rfl, trivial⟩ ?_
                        exact ih_97 _ _ hps.1 (by omega)
                refine Wx.weak (lo' := [some (.ref (ad (4, 0))), some (jI u), some (jI t), some (jI L), some (jI s), some (jI y), some (jI t), none]) ⟨rfl, rfl, rfl, rfl, rfl, rfl, rfl, trivial⟩ ?_
                exact loop_97 _ _ _ (p2_0 hR2 hI_27.2.1) (Nat.lt_succ_self _)
              · have hpi := par_in hN2 hT hv0 hI_27.2.2.1.2.2.2 (by omega)
                have hb1 := hpi.1
                have hrv := (hT.2.1 v hv0.1 hv0.2 hI_27.2.2.1.2.2.2).1
                have hRa := hR2 (τ (4, 18) v / 2) (by omega) (by omega)
                refine zr_iload X dX7_fill_33 rfl ?_
                refine zr_aloadn X dX7_fill_35 rfl ?_
                refine zr_get X K (C := RX7) (T := TX7) (N := 20) (k := 17) mM_0 rfl rfl ti_7 (by decide) rfl tw_717 rfl dX7_fill_36 ?_
                refine zr_iload X dX7_fill_39 rfl ?_
                refine zr_iald X K (n := 24) mM_18 rfl (by decide) (by omega) dX7_fill_41 ?_
                refine zr_iconst X dX7_fill_42 ?_
                refine zr_irem X dX7_fill_43 (by decide) (zb_rem2 ⟨by omega, by omega⟩) ?_
                refine zr_if_ne X 64 dX7_fill_44 (by decide) ⟨by omega, by omega⟩ (fun t_44 => ?_) (fun f_44 => ?_)
                · have rsO : rsF τ v = τ (4, 17) (τ (4, 18) v / 2) := if_neg (by omega)
                  refine zr_aloadn X dX7_fill_64 rfl ?_
                  refine zr_get X K (C := RX7) (T := TX7) (N := 20) (k := 16) mM_0 rfl rfl ti_7 (by decide) rfl tw_716 rfl dX7_fill_65 ?_
                  refine zr_aloadn X dX7_fill_68 rfl ?_
                  refine zr_get X K (C := RX7) (T := TX7) (N := 20) (k := 17) mM_0 rfl rfl ti_7 (by decide) rfl tw_717 rfl dX7_fill_69 ?_
                  refine zr_iload X dX7_fill_72 rfl ?_
                  refine zr_iald X K (n := 24) mM_18 rfl (by decide) (by omega) dX7_fill_74 ?_
                  refine zr_iconst X dX7_fill_75 ?_
                  refine zr_idiv X dX7_fill_76 (by decide) (zb_div2 ⟨by omega, by omega⟩) ?_
                  refine zr_iald X K (n := 80) mM_17 rfl (by decide) (by omega) dX7_fill_77 ?_
                  refine zr_min X tw_862 tw_280 tw_16 tw_281 ⟨Nat.le_of_ble_eq_true rfl, Nat.le_of_ble_eq_true rfl, Nat.le_of_ble_eq_true rfl, Nat.le_of_ble_eq_true rfl⟩ ⟨by omega, by omega⟩ ⟨by omega, by omega⟩ dX7_fill_78 (fun w_78 h_w_78 => ?_)
                  refine zr_istore X dX7_fill_81 (by decide) rfl ?_
                  refine zr_aloadn X dX7_fill_83 rfl ?_
                  refine zr_iload X dX7_fill_84 rfl ?_
                  refine zr_callVI X K (q := (RX7, TX7, 20)) (st := []) (c_X7_before l D cs ad hap (σ := τ) hN2 (v := v) ⟨hv0.1, hv0.2⟩ hb1) ⟨tw_863, tw_865, tp_45, tw_8, tw_866⟩ dc_X7_before mM_0 rfl rfl rfl rfl rfl (Nat.le_of_ble_eq_true rfl) (by decide) dX7_fill_86 ?_
                  intro z_ τ_ hp_
                  obtain ⟨hτ_, hz_⟩ := hp_
                  subst τ_
                  subst z_
                  refine zr_istore X dX7_fill_89 (by decide) rfl ?_
                  refine zr_goto X 27 dX7_fill_91 (by decide) ?_
                  refine Wx.weak (lo' := [some (.ref (ad (4, 0))), some (jI u), some (jI t), some (jI L), some (jI s), some (jI w_78), some (jI (parF τ v)), none]) ⟨rfl, rfl, rfl, rfl, rfl, rfl, rfl, trivial⟩ ?_
                  have hps := p1_s hN2 hT hI_27 (by omega) (by first | (rw [rsE]; exact h_w_78) | (rw [rsO]; exact h_w_78))
                  exact ih_27 _ _ _ hps.1 (by omega)
                · have rsE : rsF τ v = τ (4, 16) (τ (4, 18) v / 2) := if_pos (by omega)
                  refine zr_aloadn X dX7_fill_47 rfl ?_
                  refine zr_get X K (C := RX7) (T := TX7) (N := 20) (k := 15) mM_0 rfl rfl ti_7 (by decide) rfl tw_715 rfl dX7_fill_48 ?_
                  refine zr_aloadn X dX7_fill_51 rfl ?_
                  refine zr_get X K (C := RX7) (T := TX7) (N := 20) (k := 17) mM_0 rfl rfl ti_7 (by decide) rfl tw_717 rfl dX7_fill_52 ?_
                  refine zr_iload X dX7_fill_55 rfl ?_
                  refine zr_iald X K (n := 24) mM_18 rfl (by decide) (by omega) dX7_fill_57 ?_
                  refine zr_iconst X dX7_fill_58 ?_
                  refine zr_idiv X dX7_fill_59 (by decide) (zb_div2 ⟨by omega, by omega⟩) ?_
                  refine zr_iald X K (n := 80) mM_16 rfl (by decide) (by omega) dX7_fill_60 ?_
                  refine zr_goto X 78 dX7_fill_61 (by decide) ?_
                  refine zr_min X tw_862 tw_280 tw_16 tw_281 ⟨Nat.le_of_ble_eq_true rfl, Nat.le_of_ble_eq_true rfl, Nat.le_of_ble_eq_true rfl, Nat.le_of_ble_eq_true rfl⟩ ⟨by omega, by omega⟩ ⟨by omega, by omega⟩ dX7_fill_78 (fun w_78 h_w_78 => ?_)
                  refine zr_istore X dX7_fill_81 (by decide) rfl ?_
                  refine zr_aloadn X dX7_fill_83 rfl ?_
                  refine zr_iload X dX7_fill_84 rfl ?_
                  refine zr_callVI X K (q := (RX7, TX7, 20)) (st := []) (c_X7_before l D cs ad hap (σ := τ) hN2 (v := v) ⟨hv0.1, hv0.2⟩ hb1) ⟨tw_863, tw_865, tp_45, tw_8, tw_866⟩ dc_X7_before mM_0 rfl rfl rfl rfl rfl (Nat.le_of_ble_eq_true rfl) (by decide) dX7_fill_86 ?_
                  intro z_ τ_ hp_
                  obtain ⟨hτ_, hz_⟩ := hp_
                  subst τ_
                  subst z_
                  refine zr_istore X dX7_fill_89 (by decide) rfl ?_
                  refine zr_goto X 27 dX7_fill_91 (by decide) ?_
                  refine Wx.weak (lo' := [some (.ref (ad (4, 0))), some (jI u), some (jI t), some (jI L), some (jI s), some (jI w_78), some (jI (parF τ v)), none]) ⟨rfl, rfl, rfl, rfl, rfl, rfl, rfl, trivial⟩ ?_
                  have hps := p1_s hN2 hT hI_27 (by omega) (by first | (rw [rsE]; exact h_w_78) | (rw [rsO]; exact h_w_78))
                  exact ih_27 _ _ _ hps.1 (by omega)
          refine Wx.weak (lo' := [some (.ref (ad (4, 0))), some (jI u), some (jI t), some (jI L), some (jI s), some (jI (L - s)), some (jI t), none]) ⟨rfl, rfl, rfl, rfl, rfl, rfl, rfl, trivial⟩ ?_
          exact loop_27 _ _ _ _ (p1_0 ⟨ht.1, by omega⟩ hmt (by omega)) (Nat.lt_succ_self _)
  refine Wx.weak (lo' := [some (.ref (ad (4, 0))), some (jI u), some (jI t), some (jI L), some (jI 0), none, none, none]) ⟨rfl, rfl, rfl, rfl, rfl, trivial⟩ ?_
  exact loop_3 _ _ _ (fi_0 hR hL.1) (Nat.lt_succ_self _)
