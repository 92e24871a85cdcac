/-! THE REFERENCE: changes -/
/-- only some cells have changed -/
def frL (l : List Ix) (σ τ : Mem) : Prop := ∀ p : Ix, p ∉ l → τ p = σ p
theorem frL_set {l : List Ix} {σ τ : Mem} {i : Ix} {z x : Int} (e : mset σ i z x = τ) (h : i ∈ l) : frL l σ τ := fun p hp => by
  rw [← e]
  exact mset_id (fun g => hp (by rw [g]; exact h))
theorem frL.tr {l : List Ix} {σ τ υ : Mem} (h : frL l σ τ) (k : frL l τ υ) : frL l σ υ := fun p hp => (k p hp).trans (h p hp)
theorem frL.up {l k : List Ix} {σ τ : Mem} (h : frL l σ τ) (hs : ∀ p ∈ l, p ∈ k) : frL k σ τ := fun p hp => h p (fun g => hp (hs p g))
def mPush (σ υ : Mem) (i : Int) : Prop := frL [(4, 1), (4, 10), (4, 11), (4, 12), (4, 13)] σ υ ∧ υ (4, 1) 0 = 0 ∧ (∀ j, υ (4, 10) j = if j = σ (4, 9) 0 then σ (4, 3) 0 else σ (4, 10) j) ∧ (∀ j, υ (4, 12) j = if j = σ (4, 9) 0 then σ (4, 7) 0 else σ (4, 12) j) ∧ (∀ j, υ (4, 13) j = if j = σ (4, 9) 0 then σ (4, 8) 0 else σ (4, 13) j) ∧ ∀ j, υ (4, 11) j = if 80 * σ (4, 9) 0 ≤ j ∧ j < 80 * σ (4, 9) 0 + i then σ (4, 6) (j - 80 * σ (4, 9) 0) else σ (4, 11) j
theorem mpush_s {σ υ τ : Mem} {i : Int} (hi : 0 ≤ i) (h : mPush σ υ i) (e : mset υ (4, 11) (80 * υ (4, 9) 0 + i) (υ (4, 6) i) = τ) : mPush σ τ (i + 1) := by
  obtain ⟨h1, h2, h3, h4, h5, h6⟩ := h
  have q : ∀ p : Ix, p ≠ (4, 11) → τ p = υ p := fun p hp => by rw [← e, mset_id hp]
  have e9 : υ (4, 9) 0 = σ (4, 9) 0 := by rw [h1 (4, 9) (by decide)]
  refine ⟨h1.tr (frL_set e (by decide)), by rw [q _ (by decide)]; exact h2, by rw [q _ (by decide)]; exact h3, by rw [q _ (by decide)]; exact h4, by rw [q _ (by decide)]; exact h5, fun j => ?_⟩
  rw [← e, mset_at, e9, h1 (4, 6) (by decide)]
  by_cases g : j = 80 * σ (4, 9) 0 + i
  · rw [if_pos g, if_pos (by omega), show j - 80 * σ (4, 9) 0 = i by omega]
  · rw [if_neg g, h6]
    by_cases g2 : 80 * σ (4, 9) 0 ≤ j ∧ j < 80 * σ (4, 9) 0 + i
    · rw [if_pos g2, if_pos (by omega)]
    · rw [if_neg g2, if_neg (by omega)]
def mPop (σ υ : Mem) (i : Int) : Prop := frL [(4, 1), (4, 6), (4, 7), (4, 8), (4, 9)] σ υ ∧ υ (4, 1) 0 = 0 ∧ υ (4, 9) 0 = σ (4, 9) 0 - 1 ∧ υ (4, 7) 0 = σ (4, 12) (σ (4, 9) 0 - 1) ∧ υ (4, 8) 0 = σ (4, 13) (σ (4, 9) 0 - 1) ∧ ∀ j, υ (4, 6) j = if 0 ≤ j ∧ j < i then (if j < σ (4, 10) (σ (4, 9) 0 - 1) then σ (4, 11) (80 * (σ (4, 9) 0 - 1) + j) else 0) else σ (4, 6) j
theorem mpop_s {σ υ τ : Mem} {i x : Int} (hi : 0 ≤ i) (h : mPop σ υ i) (hx : x = if i < σ (4, 10) (σ (4, 9) 0 - 1) then σ (4, 11) (80 * (σ (4, 9) 0 - 1) + i) else 0) (e : mset υ (4, 6) i x = τ) : mPop σ τ (i + 1) := by
  obtain ⟨h1, h2, h3, h4, h5, h6⟩ := h
  have q : ∀ p : Ix, p ≠ (4, 6) → τ p = υ p := fun p hp => by rw [← e, mset_id hp]
  refine ⟨h1.tr (frL_set e (by decide)), by rw [q _ (by decide)]; exact h2, by rw [q _ (by decide)]; exact h3, by rw [q _ (by decide)]; exact h4, by rw [q _ (by decide)]; exact h5, fun j => ?_⟩
  rw [← e, mset_at]
  by_cases g : j = i
  · rw [if_pos g, if_pos ⟨by omega, by omega⟩, hx, g]
  · rw [if_neg g, h6]
    by_cases g2 : 0 ≤ j ∧ j < i
    · rw [if_pos g2, if_pos (⟨by omega, by omega⟩ : 0 ≤ j ∧ j < i + 1)]
    · rw [if_neg g2, if_neg (fun z => by omega)]

set_option maxHeartbeats 4000000 in
set_option maxRecDepth 100000 in
theorem c_X7_thrown (l : Launch) (D : va_G) (cs : Nat → ClassId) (ad : Ix → Nat) (hap : Apart idsM ad) {σ : Mem} : CI l D cs idsM ad yX7_thrown cX7_thrown 1 .int 0 [(.ref (ad (4, 0)))] σ (fun z τ => τ = σ ∧ z = σ (4, 1) 0) := by
  refine CI.of RX7 hap idsM_nd (by decide) rfl (Nat.le_of_ble_eq_true rfl) ?_
  intro pg ev s0 mi av bl mt cd X K hr
  refine zr_aloadn X dX7_thrown_0 rfl ?_
  refine zr_get X K (C := RX7) (T := TX7) (N := 20) (k := 0) mM_0 rfl rfl ti_7 (by decide) rfl tw_700 rfl dX7_thrown_1 ?_
  refine zr_iret X hr dX7_thrown_4 ?_
  exact ⟨rfl, rfl⟩

set_option maxHeartbeats 4000000 in
set_option maxRecDepth 100000 in
theorem c_X7_addNode (l : Launch) (D : va_G) (cs : Nat → ClassId) (ad : Ix → Nat) (hap : Apart idsM ad) {σ : Mem} (h : mOk σ) : CI l D cs idsM ad yX7_addNode cX7_addNode 1 .int 1 [(.ref (ad (4, 0)))] σ (fun z τ => (σ (4, 2) 0 = 24 ∧ fq σ τ ∧ τ (4, 1) 0 = 1) ∨ (σ (4, 2) 0 < 24 ∧ frL [(4, 1), (4, 2)] σ τ ∧ τ (4, 1) 0 = 0 ∧ τ (4, 2) 0 = σ (4, 2) 0 + 1 ∧ z = σ (4, 2) 0)) := by
  refine CI.of RX7 hap idsM_nd (by decide) rfl (Nat.le_of_ble_eq_true rfl) ?_
  intro pg ev s0 mi av bl mt cd X K hr
  have hN0 := h.1
  have hn0 := hN0.1
  have hm0 := hN0.2.1
  have hlv := h.2.2.2.1
  refine zr_aloadn X dX7_addNode_0 rfl ?_
  refine zr_iconst X dX7_addNode_1 ?_
  refine zr_put X K (q := (4, 1)) (C := RX7) (T := TX7) (ty0 := tyX7) (N := 20) (k := 0) mM_0 (fun _ => rfl) (by simp [mset]) rfl rfl ti_7 tyX7_ok nmX7 (by decide) rfl tw_700 rfl rfl rfl (Nat.le_of_ble_eq_true rfl) dX7_addNode_2 ?_
  generalize hm_σ1 : mset σ (4, 1) 0 0 = σ1
  have hq1 : fq σ σ1 := fq_set hm_σ1
  have t1 := congrArg (fun μ : Mem => μ (4, 1) 0) hm_σ1
  have h1 := hq1.ok h
  have hN := h1.1
  have hn := hN.1
  have hm := hN.2.1
  have hE := h1.2.2.1
  have hEs := h.2.2.1
  unfold mEn mEy at hE
  have e7 : σ1 (4, 7) 0 = σ (4, 7) 0 := congrFun (hq1 (4, 7) (by decide)) 0
  have e8 : σ1 (4, 8) 0 = σ (4, 8) 0 := congrFun (hq1 (4, 8) (by decide)) 0
  have e2 : σ1 (4, 2) 0 = σ (4, 2) 0 := congrFun (hq1 (4, 2) (by decide)) 0
  have e3 : σ1 (4, 3) 0 = σ (4, 3) 0 := congrFun (hq1 (4, 3) (by decide)) 0
  have e6 : σ1 (4, 6) = σ (4, 6) := hq1 (4, 6) (by decide)
  have e4 : σ1 (4, 4) = σ (4, 4) := hq1 (4, 4) (by decide)
  have e5 : σ1 (4, 5) = σ (4, 5) := hq1 (4, 5) (by decide)
  simp only [mset_same] at t1
  refine zr_aloadn X dX7_addNode_5 rfl ?_
  refine zr_get X K (C := RX7) (T := TX7) (N := 20) (k := 1) mM_0 rfl rfl ti_7 (by decide) rfl tw_701 rfl dX7_addNode_6 ?_
  refine zr_bipush X dX7_addNode_9 rfl ?_
  refine zr_icmp_ne X 20 dX7_addNode_11 (by decide) ⟨by omega, by omega⟩ ⟨by omega, by omega⟩ (fun t_11 => ?_) (fun f_11 => ?_)
  · refine zr_aloadn X dX7_addNode_20 rfl ?_
    refine zr_dup X dX7_addNode_21 rfl ?_
    refine zr_get X K (C := RX7) (T := TX7) (N := 20) (k := 1) mM_0 rfl rfl ti_7 (by decide) rfl tw_701 rfl dX7_addNode_22 ?_
    refine zr_iconst X dX7_addNode_25 ?_
    refine zr_iadd X dX7_addNode_26 ?_
    refine zr_put X K (q := (4, 2)) (C := RX7) (T := TX7) (ty0 := tyX7) (N := 20) (k := 1) mM_0 (fun _ => rfl) (by simp [mset]) rfl rfl ti_7 tyX7_ok nmX7 (by decide) rfl tw_701 rfl rfl rfl (Nat.le_of_ble_eq_true rfl) dX7_addNode_27 ?_
    generalize hm_σ2 : mset σ1 (4, 2) 0 ((σ1 (4, 2) 0) + 1) = σ2
    refine zr_aloadn X dX7_addNode_30 rfl ?_
    refine zr_get X K (C := RX7) (T := TX7) (N := 20) (k := 1) mM_0 rfl rfl ti_7 (by decide) rfl tw_701 rfl dX7_addNode_31 ?_
    refine zr_iconst X dX7_addNode_34 ?_
    refine zr_isub X dX7_addNode_35 ?_
    refine zr_iret X hr dX7_addNode_36 ?_
    have w2 : σ2 (4, 2) 0 = σ (4, 2) 0 + 1 := by rw [← hm_σ2, mset_same, e2]
    exact Or.inr ⟨by omega, (frL_set hm_σ1 (by decide)).tr (frL_set hm_σ2 (by decide)), by rw [← hm_σ2, mset_id (by decide)]; exact t1.symm, w2, by omega⟩
  · refine zr_aloadn X dX7_addNode_14 rfl ?_
    refine zr_iconst X dX7_addNode_15 ?_
    refine zr_callVI X K (q := (RX7, TX7, 20)) (st := []) (c_X7_fail l D cs ad hap (σ := σ1) (k := 1)) ⟨tw_769, tw_771, tp_38, tw_8, tw_772⟩ dc_X7_fail mM_0 rfl rfl rfl rfl rfl (Nat.le_of_ble_eq_true rfl) (by decide) dX7_addNode_16 ?_
    intro z τ hp
    obtain ⟨hτ, hz⟩ := hp
    have htt : τ (4, 1) 0 = 1 := by rw [hτ, mset_same]
    have hqf := hq1.tr (fq_set hτ.symm)
    refine zr_iret X hr dX7_addNode_19 ?_
    exact Or.inl ⟨by omega, hqf, htt⟩

set_option maxHeartbeats 4000000 in
set_option maxRecDepth 100000 in
theorem c_X7_setCapacity (l : Launch) (D : va_G) (cs : Nat → ClassId) (ad : Ix → Nat) (hap : Apart idsM ad) {σ : Mem} (h : mOk σ) {a c : Int} (ha : rg a) (hc : rg c) : CI l D cs idsM ad yX7_setCapacity cX7_setCapacity 4 .int 1 [(.ref (ad (4, 0))), (jI a), (jI c)] σ (fun z τ => (¬ (0 ≤ a ∧ a < σ (4, 3) 0) ∧ fq σ τ ∧ τ (4, 1) 0 = 1) ∨ ((0 ≤ a ∧ a < σ (4, 3) 0) ∧ ((¬ (0 ≤ c ∧ c ≤ 1000000) ∧ fq σ τ ∧ τ (4, 1) 0 = 2) ∨ ((0 ≤ c ∧ c ≤ 1000000) ∧ frL [(4, 1), (4, 6)] σ τ ∧ τ (4, 1) 0 = 0 ∧ (∀ j, τ (4, 6) j = if j = a then c else σ (4, 6) j) ∧ z = σ (4, 6) a)))) := by
  refine CI.of RX7 hap idsM_nd (by decide) rfl (Nat.le_of_ble_eq_true rfl) ?_
  intro pg ev s0 mi av bl mt cd X K hr
  have hN0 := h.1
  have hn0 := hN0.1
  have hm0 := hN0.2.1
  have hlv := h.2.2.2.1
  refine zr_aloadn X dX7_setCapacity_0 rfl ?_
  refine zr_iconst X dX7_setCapacity_1 ?_
  refine zr_put X K (q := (4, 1)) (C := RX7) (T := TX7) (ty0 := tyX7) (N := 20) (k := 0) mM_0 (fun _ => rfl) (by simp [mset]) rfl rfl ti_7 tyX7_ok nmX7 (by decide) rfl tw_700 rfl rfl rfl (Nat.le_of_ble_eq_true rfl) dX7_setCapacity_2 ?_
  generalize hm_σ1 : mset σ (4, 1) 0 0 = σ1
  have hq1 : fq σ σ1 := fq_set hm_σ1
  have t1 := congrArg (fun μ : Mem => μ (4, 1) 0) hm_σ1
  have h1 := hq1.ok h
  have hN := h1.1
  have hn := hN.1
  have hm := hN.2.1
  have hE := h1.2.2.1
  have hEs := h.2.2.1
  unfold mEn mEy at hE
  have e7 : σ1 (4, 7) 0 = σ (4, 7) 0 := congrFun (hq1 (4, 7) (by decide)) 0
  have e8 : σ1 (4, 8) 0 = σ (4, 8) 0 := congrFun (hq1 (4, 8) (by decide)) 0
  have e2 : σ1 (4, 2) 0 = σ (4, 2) 0 := congrFun (hq1 (4, 2) (by decide)) 0
  have e3 : σ1 (4, 3) 0 = σ (4, 3) 0 := congrFun (hq1 (4, 3) (by decide)) 0
  have e6 : σ1 (4, 6) = σ (4, 6) := hq1 (4, 6) (by decide)
  have e4 : σ1 (4, 4) = σ (4, 4) := hq1 (4, 4) (by decide)
  have e5 : σ1 (4, 5) = σ (4, 5) := hq1 (4, 5) (by decide)
  simp only [mset_same] at t1
  refine zr_aloadn X dX7_setCapacity_5 rfl ?_
  refine zr_iloadn X dX7_setCapacity_6 rfl ?_
  refine zr_callVI X K (q := (RX7, TX7, 20)) (st := []) (c_X7_isArc l D cs ad hap (σ := σ1) hN (v := a) ha) ⟨tw_789, tw_791, tp_40, tw_8, tw_792⟩ dc_X7_isArc mM_0 rfl rfl rfl rfl rfl (Nat.le_of_ble_eq_true rfl) (by decide) dX7_setCapacity_7 ?_
  intro y τ_ hp_
  obtain ⟨hτ_, hy01, hy⟩ := hp_
  subst τ_
  refine zr_if_ne X 19 dX7_setCapacity_10 (by decide) (by rcases hy01 with q | q <;> exact ⟨by omega, by omega⟩) (fun t_10 => ?_) (fun f_10 => ?_)
  · refine zr_iloadn X dX7_setCapacity_19 rfl ?_
    refine zr_callSI X K (st := []) (c_X7_isCapacity l D cs ad hap (σ := σ1) (v := c) hc) ⟨tw_781, tw_782, tw_8, tw_783⟩ dc_X7_isCapacity rfl rfl (Nat.le_of_ble_eq_true rfl) (by decide) dX7_setCapacity_20 ?_
    intro x τ_ hp_
    obtain ⟨hτ_, hx01, hx⟩ := hp_
    subst τ_
    refine zr_if_ne X 32 dX7_setCapacity_23 (by decide) (by rcases hx01 with q | q <;> exact ⟨by omega, by omega⟩) (fun t_23 => ?_) (fun f_23 => ?_)
    · refine zr_aloadn X dX7_setCapacity_32 rfl ?_
      refine zr_get X K (C := RX7) (T := TX7) (N := 20) (k := 5) mM_0 rfl rfl ti_7 (by decide) rfl tw_705 rfl dX7_setCapacity_33 ?_
      refine zr_iloadn X dX7_setCapacity_36 rfl ?_
      refine zr_iald X K (n := 80) mM_6 rfl (by decide) (by omega) dX7_setCapacity_37 ?_
      refine zr_istoren X dX7_setCapacity_38 (by decide) rfl ?_
      refine zr_aloadn X dX7_setCapacity_39 rfl ?_
      refine zr_get X K (C := RX7) (T := TX7) (N := 20) (k := 5) mM_0 rfl rfl ti_7 (by decide) rfl tw_705 rfl dX7_setCapacity_40 ?_
      refine zr_iloadn X dX7_setCapacity_43 rfl ?_
      refine zr_iloadn X dX7_setCapacity_44 rfl ?_
      refine zr_iast X K (n := 80) mM_6 (fun _ => rfl) rfl (by decide) (by omega) dX7_setCapacity_45 ?_
      generalize hm_σ2 : mset σ1 (4, 6) a c = σ2
      refine zr_iloadn X dX7_setCapacity_46 rfl ?_
      refine zr_iret X hr dX7_setCapacity_47 ?_
      exact Or.inr ⟨by omega, Or.inr ⟨by omega, (frL_set hm_σ1 (by decide)).tr (frL_set hm_σ2 (by decide)), by rw [← hm_σ2, mset_id (by decide)]; exact t1.symm, fun j => by rw [← hm_σ2, mset_at, e6], congrFun e6 a⟩⟩
    · refine zr_aloadn X dX7_setCapacity_26 rfl ?_
      refine zr_iconst X dX7_setCapacity_27 ?_
      refine zr_callVI X K (q := (RX7, TX7, 20)) (st := []) (c_X7_fail l D cs ad hap (σ := σ1) (k := 2)) ⟨tw_769, tw_771, tp_38, tw_8, tw_772⟩ dc_X7_fail mM_0 rfl rfl rfl rfl rfl (Nat.le_of_ble_eq_true rfl) (by decide) dX7_setCapacity_28 ?_
      intro z τ hp
      obtain ⟨hτ, hz⟩ := hp
      have htt : τ (4, 1) 0 = 2 := by rw [hτ, mset_same]
      have hqf := hq1.tr (fq_set hτ.symm)
      refine zr_iret X hr dX7_setCapacity_31 ?_
      first | exact Or.inl ⟨by omega, hqf, htt⟩ | exact Or.inr ⟨by omega, Or.inl ⟨by omega, hqf, htt⟩⟩
  · refine zr_aloadn X dX7_setCapacity_13 rfl ?_
    refine zr_iconst X dX7_setCapacity_14 ?_
    refine zr_callVI X K (q := (RX7, TX7, 20)) (st := []) (c_X7_fail l D cs ad hap (σ := σ1) (k := 1)) ⟨tw_769, tw_771, tp_38, tw_8, tw_772⟩ dc_X7_fail mM_0 rfl rfl rfl rfl rfl (Nat.le_of_ble_eq_true rfl) (by decide) dX7_setCapacity_15 ?_
    intro z τ hp
    obtain ⟨hτ, hz⟩ := hp
    have htt : τ (4, 1) 0 = 1 := by rw [hτ, mset_same]
    have hqf := hq1.tr (fq_set hτ.symm)
    refine zr_iret X hr dX7_setCapacity_18 ?_
    first | exact Or.inl ⟨by omega, hqf, htt⟩ | exact Or.inr ⟨by omega, Or.inl ⟨by omega, hqf, htt⟩⟩

set_option maxHeartbeats 4000000 in
set_option maxRecDepth 100000 in
theorem c_X7_addArc (l : Launch) (D : va_G) (cs : Nat → ClassId) (ad : Ix → Nat) (hap : Apart idsM ad) {σ : Mem} (h : mOk σ) {s t c : Int} (hs : rg s) (ht : rg t) (hc : rg c) : CI l D cs idsM ad yX7_addArc cX7_addArc 4 .int 1 [(.ref (ad (4, 0))), (jI s), (jI t), (jI c)] σ (fun z τ => (¬ ((0 ≤ s ∧ s < σ (4, 2) 0) ∧ (0 ≤ t ∧ t < σ (4, 2) 0)) ∧ fq σ τ ∧ τ (4, 1) 0 = 1) ∨ (((0 ≤ s ∧ s < σ (4, 2) 0) ∧ (0 ≤ t ∧ t < σ (4, 2) 0)) ∧ (((s = t ∨ ¬ (0 ≤ c ∧ c ≤ 1000000)) ∧ fq σ τ ∧ τ (4, 1) 0 = 2) ∨ ((s ≠ t ∧ (0 ≤ c ∧ c ≤ 1000000)) ∧ ((σ (4, 3) 0 = 80 ∧ fq σ τ ∧ τ (4, 1) 0 = 3) ∨ (σ (4, 3) 0 < 80 ∧ frL [(4, 1), (4, 3), (4, 4), (4, 5), (4, 6)] σ τ ∧ τ (4, 1) 0 = 0 ∧ τ (4, 3) 0 = σ (4, 3) 0 + 1 ∧ (∀ j, τ (4, 4) j = if j = σ (4, 3) 0 then s else σ (4, 4) j) ∧ (∀ j, τ (4, 5) j = if j = σ (4, 3) 0 then t else σ (4, 5) j) ∧ (∀ j, τ (4, 6) j = if j = σ (4, 3) 0 then c else σ (4, 6) j) ∧ z = σ (4, 3) 0)))))) := by
  refine CI.of RX7 hap idsM_nd (by decide) rfl (Nat.le_of_ble_eq_true rfl) ?_
  intro pg ev s0 mi av bl mt cd X K hr
  have hN0 := h.1
  have hn0 := hN0.1
  have hm0 := hN0.2.1
  have hlv := h.2.2.2.1
  refine zr_aloadn X dX7_addArc_0 rfl ?_
  refine zr_iconst X dX7_addArc_1 ?_
  refine zr_put X K (q := (4, 1)) (C := RX7) (T := TX7) (ty0 := tyX7) (N := 20) (k := 0) mM_0 (fun _ => rfl) (by simp [mset]) rfl rfl ti_7 tyX7_ok nmX7 (by decide) rfl tw_700 rfl rfl rfl (Nat.le_of_ble_eq_true rfl) dX7_addArc_2 ?_
  generalize hm_σ1 : mset σ (4, 1) 0 0 = σ1
  have hq1 : fq σ σ1 := fq_set hm_σ1
  have t1 := congrArg (fun μ : Mem => μ (4, 1) 0) hm_σ1
  have h1 := hq1.ok h
  have hN := h1.1
  have hn := hN.1
  have hm := hN.2.1
  have hE := h1.2.2.1
  have hEs := h.2.2.1
  unfold mEn mEy at hE
  have e7 : σ1 (4, 7) 0 = σ (4, 7) 0 := congrFun (hq1 (4, 7) (by decide)) 0
  have e8 : σ1 (4, 8) 0 = σ (4, 8) 0 := congrFun (hq1 (4, 8) (by decide)) 0
  have e2 : σ1 (4, 2) 0 = σ (4, 2) 0 := congrFun (hq1 (4, 2) (by decide)) 0
  have e3 : σ1 (4, 3) 0 = σ (4, 3) 0 := congrFun (hq1 (4, 3) (by decide)) 0
  have e6 : σ1 (4, 6) = σ (4, 6) := hq1 (4, 6) (by decide)
  have e4 : σ1 (4, 4) = σ (4, 4) := hq1 (4, 4) (by decide)
  have e5 : σ1 (4, 5) = σ (4, 5) := hq1 (4, 5) (by decide)
  simp only [mset_same] at t1
  have hs1 := hs.1
  have hs2 := hs.2
  have ht1 := ht.1
  have ht2 := ht.2
  refine zr_aloadn X dX7_addArc_5 rfl ?_
  refine zr_iloadn X dX7_addArc_6 rfl ?_
  refine zr_callVI X K (q := (RX7, TX7, 20)) (st := []) (c_X7_isNode l D cs ad hap (σ := σ1) hN (v := s) hs) ⟨tw_777, tw_779, tp_39, tw_8, tw_780⟩ dc_X7_isNode mM_0 rfl rfl rfl rfl rfl (Nat.le_of_ble_eq_true rfl) (by decide) dX7_addArc_7 ?_
  intro y τ_ hp_
  obtain ⟨hτ_, hy01, hy⟩ := hp_
  subst τ_
  refine zr_if_eq X 21 dX7_addArc_10 (by decide) (by rcases hy01 with q | q <;> exact ⟨by omega, by omega⟩) (fun t_10 => ?_) (fun f_10 => ?_)
  · refine zr_aloadn X dX7_addArc_21 rfl ?_
    refine zr_iconst X dX7_addArc_22 ?_
    refine zr_callVI X K (q := (RX7, TX7, 20)) (st := []) (c_X7_fail l D cs ad hap (σ := σ1) (k := 1)) ⟨tw_769, tw_771, tp_38, tw_8, tw_772⟩ dc_X7_fail mM_0 rfl rfl rfl rfl rfl (Nat.le_of_ble_eq_true rfl) (by decide) dX7_addArc_23 ?_
    intro z τ hp
    obtain ⟨hτ, hz⟩ := hp
    have htt : τ (4, 1) 0 = 1 := by rw [hτ, mset_same]
    have hqf := hq1.tr (fq_set hτ.symm)
    refine zr_iret X hr dX7_addArc_26 ?_
    first | exact Or.inl ⟨by omega, hqf, htt⟩ | exact Or.inr ⟨by omega, Or.inl ⟨by omega, hqf, htt⟩⟩ | exact Or.inr ⟨by omega, Or.inr ⟨by omega, Or.inl ⟨by omega, hqf, htt⟩⟩⟩
  · refine zr_aloadn X dX7_addArc_13 rfl ?_
    refine zr_iloadn X dX7_addArc_14 rfl ?_
    refine zr_callVI X K (q := (RX7, TX7, 20)) (st := []) (c_X7_isNode l D cs ad hap (σ := σ1) hN (v := t) ht) ⟨tw_777, tw_779, tp_39, tw_8, tw_780⟩ dc_X7_isNode mM_0 rfl rfl rfl rfl rfl (Nat.le_of_ble_eq_true rfl) (by decide) dX7_addArc_15 ?_
    intro w τ_ hp_
    obtain ⟨hτ_, hw01, hw⟩ := hp_
    subst τ_
    refine zr_if_ne X 27 dX7_addArc_18 (by decide) (by rcases hw01 with q | q <;> exact ⟨by omega, by omega⟩) (fun t_18 => ?_) (fun f_18 => ?_)
    · refine zr_iloadn X dX7_addArc_27 rfl ?_
      refine zr_iloadn X dX7_addArc_28 rfl ?_
      refine zr_icmp_eq X 39 dX7_addArc_29 (by decide) ⟨by omega, by omega⟩ ⟨by omega, by omega⟩ (fun t_29 => ?_) (fun f_29 => ?_)
      · refine zr_aloadn X dX7_addArc_39 rfl ?_
        refine zr_iconst X dX7_addArc_40 ?_
        refine zr_callVI X K (q := (RX7, TX7, 20)) (st := []) (c_X7_fail l D cs ad hap (σ := σ1) (k := 2)) ⟨tw_769, tw_771, tp_38, tw_8, tw_772⟩ dc_X7_fail mM_0 rfl rfl rfl rfl rfl (Nat.le_of_ble_eq_true rfl) (by decide) dX7_addArc_41 ?_
        intro z τ hp
        obtain ⟨hτ, hz⟩ := hp
        have htt : τ (4, 1) 0 = 2 := by rw [hτ, mset_same]
        have hqf := hq1.tr (fq_set hτ.symm)
        refine zr_iret X hr dX7_addArc_44 ?_
        first | exact Or.inl ⟨by omega, hqf, htt⟩ | exact Or.inr ⟨by omega, Or.inl ⟨by omega, hqf, htt⟩⟩ | exact Or.inr ⟨by omega, Or.inr ⟨by omega, Or.inl ⟨by omega, hqf, htt⟩⟩⟩
      · refine zr_iloadn X dX7_addArc_32 rfl ?_
        refine zr_callSI X K (st := []) (c_X7_isCapacity l D cs ad hap (σ := σ1) (v := c) hc) ⟨tw_781, tw_782, tw_8, tw_783⟩ dc_X7_isCapacity rfl rfl (Nat.le_of_ble_eq_true rfl) (by decide) dX7_addArc_33 ?_
        intro x τ_ hp_
        obtain ⟨hτ_, hx01, hx⟩ := hp_
        subst τ_
        refine zr_if_ne X 45 dX7_addArc_36 (by decide) (by rcases hx01 with q | q <;> exact ⟨by omega, by omega⟩) (fun t_36 => ?_) (fun f_36 => ?_)
        · refine zr_aloadn X dX7_addArc_45 rfl ?_
          refine zr_get X K (C := RX7) (T := TX7) (N := 20) (k := 2) mM_0 rfl rfl ti_7 (by decide) rfl tw_702 rfl dX7_addArc_46 ?_
          refine zr_bipush X dX7_addArc_49 rfl ?_
          refine zr_icmp_ne X 60 dX7_addArc_51 (by decide) ⟨by omega, by omega⟩ ⟨by omega, by omega⟩ (fun t_51 => ?_) (fun f_51 => ?_)
          · refine zr_aloadn X dX7_addArc_60 rfl ?_
            refine zr_get X K (C := RX7) (T := TX7) (N := 20) (k := 3) mM_0 rfl rfl ti_7 (by decide) rfl tw_703 rfl dX7_addArc_61 ?_
            refine zr_aloadn X dX7_addArc_64 rfl ?_
            refine zr_get X K (C := RX7) (T := TX7) (N := 20) (k := 2) mM_0 rfl rfl ti_7 (by decide) rfl tw_702 rfl dX7_addArc_65 ?_
            refine zr_iloadn X dX7_addArc_68 rfl ?_
            refine zr_iast X K (n := 80) mM_4 (fun _ => rfl) rfl (by decide) (by omega) dX7_addArc_69 ?_
            generalize hm_σ2 : mset σ1 (4, 4) (σ1 (4, 3) 0) s = σ2
            have a3 : σ2 (4, 3) 0 = σ (4, 3) 0 := by rw [← hm_σ2, mset_id (by decide), e3]
            refine zr_aloadn X dX7_addArc_70 rfl ?_
            refine zr_get X K (C := RX7) (T := TX7) (N := 20) (k := 4) mM_0 rfl rfl ti_7 (by decide) rfl tw_704 rfl dX7_addArc_71 ?_
            refine zr_aloadn X dX7_addArc_74 rfl ?_
            refine zr_get X K (C := RX7) (T := TX7) (N := 20) (k := 2) mM_0 rfl rfl ti_7 (by decide) rfl tw_702 rfl dX7_addArc_75 ?_
            refine zr_iloadn X dX7_addArc_78 rfl ?_
            refine zr_iast X K (n := 80) mM_5 (fun _ => rfl) rfl (by decide) (by omega) dX7_addArc_79 ?_
            generalize hm_σ3 : mset σ2 (4, 5) (σ2 (4, 3) 0) t = σ3
            have b3 : σ3 (4, 3) 0 = σ (4, 3) 0 := by rw [← hm_σ3, mset_id (by decide), a3]
            refine zr_aloadn X dX7_addArc_80 rfl ?_
            refine zr_get X K (C := RX7) (T := TX7) (N := 20) (k := 5) mM_0 rfl rfl ti_7 (by decide) rfl tw_705 rfl dX7_addArc_81 ?_
            refine zr_aloadn X dX7_addArc_84 rfl ?_
            refine zr_get X K (C := RX7) (T := TX7) (N := 20) (k := 2) mM_0 rfl rfl ti_7 (by decide) rfl tw_702 rfl dX7_addArc_85 ?_
            refine zr_iloadn X dX7_addArc_88 rfl ?_
            refine zr_iast X K (n := 80) mM_6 (fun _ => rfl) rfl (by decide) (by omega) dX7_addArc_89 ?_
            generalize hm_σ4 : mset σ3 (4, 6) (σ3 (4, 3) 0) c = σ4
            have d3 : σ4 (4, 3) 0 = σ (4, 3) 0 := by rw [← hm_σ4, mset_id (by decide), b3]
            refine zr_aloadn X dX7_addArc_90 rfl ?_
            refine zr_dup X dX7_addArc_91 rfl ?_
            refine zr_get X K (C := RX7) (T := TX7) (N := 20) (k := 2) mM_0 rfl rfl ti_7 (by decide) rfl tw_702 rfl dX7_addArc_92 ?_
            refine zr_iconst X dX7_addArc_95 ?_
            refine zr_iadd X dX7_addArc_96 ?_
            refine zr_put X K (q := (4, 3)) (C := RX7) (T := TX7) (ty0 := tyX7) (N := 20) (k := 2) mM_0 (fun _ => rfl) (by simp [mset]) rfl rfl ti_7 tyX7_ok nmX7 (by decide) rfl tw_702 rfl rfl rfl (Nat.le_of_ble_eq_true rfl) dX7_addArc_97 ?_
            generalize hm_σ5 : mset σ4 (4, 3) 0 ((σ4 (4, 3) 0) + 1) = σ5
            refine zr_aloadn X dX7_addArc_100 rfl ?_
            refine zr_get X K (C := RX7) (T := TX7) (N := 20) (k := 2) mM_0 rfl rfl ti_7 (by decide) rfl tw_702 rfl dX7_addArc_101 ?_
            refine zr_iconst X dX7_addArc_104 ?_
            refine zr_isub X dX7_addArc_105 ?_
            refine zr_iret X hr dX7_addArc_106 ?_
            have w3 : σ5 (4, 3) 0 = σ (4, 3) 0 + 1 := by rw [← hm_σ5, mset_same, d3]
            refine Or.inr ⟨by omega, Or.inr ⟨by omega, Or.inr ⟨by omega, ((((frL_set hm_σ1 (by decide)).tr (frL_set hm_σ2 (by decide))).tr (frL_set hm_σ3 (by decide))).tr (frL_set hm_σ4 (by decide))).tr (frL_set hm_σ5 (by decide)), ?_, w3, fun j => ?_, fun j => ?_, fun j => ?_, by omega⟩⟩⟩
            · rw [← hm_σ5, mset_id (by decide), ← hm_σ4, mset_id (by decide), ← hm_σ3, mset_id (by decide), ← hm_σ2, mset_id (by decide)]; exact t1.symm
            · rw [← hm_σ5, mset_id (by decide), ← hm_σ4, mset_id (by decide), ← hm_σ3, mset_id (by decide), ← hm_σ2, mset_at, e3, e4]
            · rw [← hm_σ5, mset_id (by decide), ← hm_σ4, mset_id (by decide), ← hm_σ3, mset_at, a3, ← hm_σ2, mset_id (by decide), e5]
            · rw [← hm_σ5, mset_id (by decide), ← hm_σ4, mset_at, b3, ← hm_σ3, mset_id (by decide), ← hm_σ2, mset_id (by decide), e6]
          · refine zr_aloadn X dX7_addArc_54 rfl ?_
            refine zr_iconst X dX7_addArc_55 ?_
            refine zr_callVI X K (q := (RX7, TX7, 20)) (st := []) (c_X7_fail l D cs ad hap (σ := σ1) (k := 3)) ⟨tw_769, tw_771, tp_38, tw_8, tw_772⟩ dc_X7_fail mM_0 rfl rfl rfl rfl rfl (Nat.le_of_ble_eq_true rfl) (by decide) dX7_addArc_56 ?_
            intro z τ hp
            obtain ⟨hτ, hz⟩ := hp
            have htt : τ (4, 1) 0 = 3 := by rw [hτ, mset_same]
            have hqf := hq1.tr (fq_set hτ.symm)
            refine zr_iret X hr dX7_addArc_59 ?_
            first | exact Or.inl ⟨by omega, hqf, htt⟩ | exact Or.inr ⟨by omega, Or.inl ⟨by omega, hqf, htt⟩⟩ | exact Or.inr ⟨by omega, Or.inr ⟨by omega, Or.inl ⟨by omega, hqf, htt⟩⟩⟩
        · refine zr_aloadn X dX7_addArc_39 rfl ?_
          refine zr_iconst X dX7_addArc_40 ?_
          refine zr_callVI X K (q := (RX7, TX7, 20)) (st := []) (c_X7_fail l D cs ad hap (σ := σ1) (k := 2)) ⟨tw_769, tw_771, tp_38, tw_8, tw_772⟩ dc_X7_fail mM_0 rfl rfl rfl rfl rfl (Nat.le_of_ble_eq_true rfl) (by decide) dX7_addArc_41 ?_
          intro z τ hp
          obtain ⟨hτ, hz⟩ := hp
          have htt : τ (4, 1) 0 = 2 := by rw [hτ, mset_same]
          have hqf := hq1.tr (fq_set hτ.symm)
          refine zr_iret X hr dX7_addArc_44 ?_
          first | exact Or.inl ⟨by omega, hqf, htt⟩ | exact Or.inr ⟨by omega, Or.inl ⟨by omega, hqf, htt⟩⟩ | exact Or.inr ⟨by omega, Or.inr ⟨by omega, Or.inl ⟨by omega, hqf, htt⟩⟩⟩
    · refine zr_aloadn X dX7_addArc_21 rfl ?_
      refine zr_iconst X dX7_addArc_22 ?_
      refine zr_callVI X K (q := (RX7, TX7, 20)) (st := []) (c_X7_fail l D cs ad hap (σ := σ1) (k := 1)) ⟨tw_769, tw_771, tp_38, tw_8, tw_772⟩ dc_X7_fail mM_0 rfl rfl rfl rfl rfl (Nat.le_of_ble_eq_true rfl) (by decide) dX7_addArc_23 ?_
      intro z τ hp
      obtain ⟨hτ, hz⟩ := hp
      have htt : τ (4, 1) 0 = 1 := by rw [hτ, mset_same]
      have hqf := hq1.tr (fq_set hτ.symm)
      refine zr_iret X hr dX7_addArc_26 ?_
      first | exact Or.inl ⟨by omega, hqf, htt⟩ | exact Or.inr ⟨by omega, Or.inl ⟨by omega, hqf, htt⟩⟩ | exact Or.inr ⟨by omega, Or.inr ⟨by omega, Or.inl ⟨by omega, hqf, htt⟩⟩⟩

set_option maxHeartbeats 4000000 in
set_option maxRecDepth 100000 in
theorem c_X7_setEnds (l : Launch) (D : va_G) (cs : Nat → ClassId) (ad : Ix → Nat) (hap : Apart idsM ad) {σ : Mem} (h : mOk σ) {s t : Int} (hs : rg s) (ht : rg t) : CI l D cs idsM ad yX7_setEnds cX7_setEnds 4 .boolean 1 [(.ref (ad (4, 0))), (jI s), (jI t)] σ (fun z τ => (¬ ((0 ≤ s ∧ s < σ (4, 2) 0) ∧ (0 ≤ t ∧ t < σ (4, 2) 0)) ∧ fq σ τ ∧ τ (4, 1) 0 = 1) ∨ (((0 ≤ s ∧ s < σ (4, 2) 0) ∧ (0 ≤ t ∧ t < σ (4, 2) 0)) ∧ ((s = t ∧ fq σ τ ∧ τ (4, 1) 0 = 2) ∨ (s ≠ t ∧ frL [(4, 1), (4, 7), (4, 8)] σ τ ∧ τ (4, 1) 0 = 0 ∧ (τ (4, 7) 0 = s ∧ τ (4, 8) 0 = t) ∧ (z = 0 ∨ z = 1) ∧ (z = 1 ↔ ¬ (σ (4, 7) 0 = s ∧ σ (4, 8) 0 = t)))))) := by
  refine CI.of RX7 hap idsM_nd (by decide) rfl (Nat.le_of_ble_eq_true rfl) ?_
  intro pg ev s0 mi av bl mt cd X K hr
  have hN0 := h.1
  have hn0 := hN0.1
  have hm0 := hN0.2.1
  have hlv := h.2.2.2.1
  refine zr_aloadn X dX7_setEnds_0 rfl ?_
  refine zr_iconst X dX7_setEnds_1 ?_
  refine zr_put X K (q := (4, 1)) (C := RX7) (T := TX7) (ty0 := tyX7) (N := 20) (k := 0) mM_0 (fun _ => rfl) (by simp [mset]) rfl rfl ti_7 tyX7_ok nmX7 (by decide) rfl tw_700 rfl rfl rfl (Nat.le_of_ble_eq_true rfl) dX7_setEnds_2 ?_
  generalize hm_σ1 : mset σ (4, 1) 0 0 = σ1
  have hq1 : fq σ σ1 := fq_set hm_σ1
  have t1 := congrArg (fun μ : Mem => μ (4, 1) 0) hm_σ1
  have h1 := hq1.ok h
  have hN := h1.1
  have hn := hN.1
  have hm := hN.2.1
  have hE := h1.2.2.1
  have hEs := h.2.2.1
  unfold mEn mEy at hE
  have e7 : σ1 (4, 7) 0 = σ (4, 7) 0 := congrFun (hq1 (4, 7) (by decide)) 0
  have e8 : σ1 (4, 8) 0 = σ (4, 8) 0 := congrFun (hq1 (4, 8) (by decide)) 0
  have e2 : σ1 (4, 2) 0 = σ (4, 2) 0 := congrFun (hq1 (4, 2) (by decide)) 0
  have e3 : σ1 (4, 3) 0 = σ (4, 3) 0 := congrFun (hq1 (4, 3) (by decide)) 0
  have e6 : σ1 (4, 6) = σ (4, 6) := hq1 (4, 6) (by decide)
  have e4 : σ1 (4, 4) = σ (4, 4) := hq1 (4, 4) (by decide)
  have e5 : σ1 (4, 5) = σ (4, 5) := hq1 (4, 5) (by decide)
  simp only [mset_same] at t1
  have hs1 := hs.1
  have hs2 := hs.2
  have ht1 := ht.1
  have ht2 := ht.2
  refine zr_aloadn X dX7_setEnds_5 rfl ?_
  refine zr_iloadn X dX7_setEnds_6 rfl ?_
  refine zr_callVI X K (q := (RX7, TX7, 20)) (st := []) (c_X7_isNode l D cs ad hap (σ := σ1) hN (v := s) hs) ⟨tw_777, tw_779, tp_39, tw_8, tw_780⟩ dc_X7_isNode mM_0 rfl rfl rfl rfl rfl (Nat.le_of_ble_eq_true rfl) (by decide) dX7_setEnds_7 ?_
  intro y τ_ hp_
  obtain ⟨hτ_, hy01, hy⟩ := hp_
  subst τ_
  refine zr_if_eq X 21 dX7_setEnds_10 (by decide) (by rcases hy01 with q | q <;> exact ⟨by omega, by omega⟩) (fun t_10 => ?_) (fun f_10 => ?_)
  · refine zr_aloadn X dX7_setEnds_21 rfl ?_
    refine zr_iconst X dX7_setEnds_22 ?_
    refine zr_callVI X K (q := (RX7, TX7, 20)) (st := []) (c_X7_fail l D cs ad hap (σ := σ1) (k := 1)) ⟨tw_769, tw_771, tp_38, tw_8, tw_772⟩ dc_X7_fail mM_0 rfl rfl rfl rfl rfl (Nat.le_of_ble_eq_true rfl) (by decide) dX7_setEnds_23 ?_
    intro z τ hp
    obtain ⟨hτ, hz⟩ := hp
    have htt : τ (4, 1) 0 = 1 := by rw [hτ, mset_same]
    have hqf := hq1.tr (fq_set hτ.symm)
    refine zr_if_eq X 33 dX7_setEnds_26 (by decide) ⟨by omega, by omega⟩ (fun t_26 => ?_) (fun f_26 => ?_)
    · refine zr_iconst X dX7_setEnds_33 ?_
      refine zr_zret X hr dX7_setEnds_34 (by omega) ?_
      first | exact Or.inl ⟨by omega, hqf, htt⟩ | exact Or.inr ⟨by omega, Or.inl ⟨by omega, hqf, htt⟩⟩
    · refine zr_iconst X dX7_setEnds_29 ?_
      refine zr_goto X 34 dX7_setEnds_30 (by decide) ?_
      refine zr_zret X hr dX7_setEnds_34 (by omega) ?_
      first | exact Or.inl ⟨by omega, hqf, htt⟩ | exact Or.inr ⟨by omega, Or.inl ⟨by omega, hqf, htt⟩⟩
  · refine zr_aloadn X dX7_setEnds_13 rfl ?_
    refine zr_iloadn X dX7_setEnds_14 rfl ?_
    refine zr_callVI X K (q := (RX7, TX7, 20)) (st := []) (c_X7_isNode l D cs ad hap (σ := σ1) hN (v := t) ht) ⟨tw_777, tw_779, tp_39, tw_8, tw_780⟩ dc_X7_isNode mM_0 rfl rfl rfl rfl rfl (Nat.le_of_ble_eq_true rfl) (by decide) dX7_setEnds_15 ?_
    intro w τ_ hp_
    obtain ⟨hτ_, hw01, hw⟩ := hp_
    subst τ_
    refine zr_if_ne X 35 dX7_setEnds_18 (by decide) (by rcases hw01 with q | q <;> exact ⟨by omega, by omega⟩) (fun t_18 => ?_) (fun f_18 => ?_)
    · refine zr_iloadn X dX7_setEnds_35 rfl ?_
      refine zr_iloadn X dX7_setEnds_36 rfl ?_
      refine zr_icmp_ne X 54 dX7_setEnds_37 (by decide) ⟨by omega, by omega⟩ ⟨by omega, by omega⟩ (fun t_37 => ?_) (fun f_37 => ?_)
      · refine zr_aloadn X dX7_setEnds_54 rfl ?_
        refine zr_get X K (C := RX7) (T := TX7) (N := 20) (k := 6) mM_0 rfl rfl ti_7 (by decide) rfl tw_706 rfl dX7_setEnds_55 ?_
        refine zr_iloadn X dX7_setEnds_58 rfl ?_
        refine zr_icmp_ne X 70 dX7_setEnds_59 (by decide) ⟨by omega, by omega⟩ ⟨by omega, by omega⟩ (fun t_59 => ?_) (fun f_59 => ?_)
        · refine zr_iconst X dX7_setEnds_70 ?_
          refine zr_goto X 75 dX7_setEnds_71 (by decide) ?_
          refine zr_istoren X dX7_setEnds_75 (by decide) rfl ?_
          refine zr_aloadn X dX7_setEnds_76 rfl ?_
          refine zr_iloadn X dX7_setEnds_77 rfl ?_
          refine zr_put X K (q := (4, 7)) (C := RX7) (T := TX7) (ty0 := tyX7) (N := 20) (k := 6) mM_0 (fun _ => rfl) (by simp [mset]) rfl rfl ti_7 tyX7_ok nmX7 (by decide) rfl tw_706 rfl rfl rfl (Nat.le_of_ble_eq_true rfl) dX7_setEnds_78 ?_
          generalize hm_σ2 : mset σ1 (4, 7) 0 s = σ2
          refine zr_aloadn X dX7_setEnds_81 rfl ?_
          refine zr_iloadn X dX7_setEnds_82 rfl ?_
          refine zr_put X K (q := (4, 8)) (C := RX7) (T := TX7) (ty0 := tyX7) (N := 20) (k := 7) mM_0 (fun _ => rfl) (by simp [mset]) rfl rfl ti_7 tyX7_ok nmX7 (by decide) rfl tw_707 rfl rfl rfl (Nat.le_of_ble_eq_true rfl) dX7_setEnds_83 ?_
          generalize hm_σ3 : mset σ2 (4, 8) 0 t = σ3
          refine zr_iloadn X dX7_setEnds_86 rfl ?_
          refine zr_zret X hr dX7_setEnds_87 (by omega) ?_
          exact Or.inr ⟨by omega, Or.inr ⟨by omega, ((frL_set hm_σ1 (by decide)).tr (frL_set hm_σ2 (by decide))).tr (frL_set hm_σ3 (by decide)), by rw [← hm_σ3, mset_id (by decide), ← hm_σ2, mset_id (by decide)]; exact t1.symm, ⟨by rw [← hm_σ3, mset_id (by decide), ← hm_σ2, mset_same], by rw [← hm_σ3, mset_same]⟩, by omega, by omega⟩⟩
        · refine zr_aloadn X dX7_setEnds_62 rfl ?_
          refine zr_get X K (C := RX7) (T := TX7) (N := 20) (k := 7) mM_0 rfl rfl ti_7 (by decide) rfl tw_707 rfl dX7_setEnds_63 ?_
          refine zr_iloadn X dX7_setEnds_66 rfl ?_
          refine zr_icmp_eq X 74 dX7_setEnds_67 (by decide) ⟨by omega, by omega⟩ ⟨by omega, by omega⟩ (fun t_67 => ?_) (fun f_67 => ?_)
          · refine zr_iconst X dX7_setEnds_74 ?_
            refine zr_istoren X dX7_setEnds_75 (by decide) rfl ?_
            refine zr_aloadn X dX7_setEnds_76 rfl ?_
            refine zr_iloadn X dX7_setEnds_77 rfl ?_
            refine zr_put X K (q := (4, 7)) (C := RX7) (T := TX7) (ty0 := tyX7) (N := 20) (k := 6) mM_0 (fun _ => rfl) (by simp [mset]) rfl rfl ti_7 tyX7_ok nmX7 (by decide) rfl tw_706 rfl rfl rfl (Nat.le_of_ble_eq_true rfl) dX7_setEnds_78 ?_
            generalize hm_σ4 : mset σ1 (4, 7) 0 s = σ4
            refine zr_aloadn X dX7_setEnds_81 rfl ?_
            refine zr_iloadn X dX7_setEnds_82 rfl ?_
            refine zr_put X K (q := (4, 8)) (C := RX7) (T := TX7) (ty0 := tyX7) (N := 20) (k := 7) mM_0 (fun _ => rfl) (by simp [mset]) rfl rfl ti_7 tyX7_ok nmX7 (by decide) rfl tw_707 rfl rfl rfl (Nat.le_of_ble_eq_true rfl) dX7_setEnds_83 ?_
            generalize hm_σ5 : mset σ4 (4, 8) 0 t = σ5
            refine zr_iloadn X dX7_setEnds_86 rfl ?_
            refine zr_zret X hr dX7_setEnds_87 (by omega) ?_
            exact Or.inr ⟨by omega, Or.inr ⟨by omega, ((frL_set hm_σ1 (by decide)).tr (frL_set hm_σ4 (by decide))).tr (frL_set hm_σ5 (by decide)), by rw [← hm_σ5, mset_id (by decide), ← hm_σ4, mset_id (by decide)]; exact t1.symm, ⟨by rw [← hm_σ5, mset_id (by decide), ← hm_σ4, mset_same], by rw [← hm_σ5, mset_same]⟩, by omega, by omega⟩⟩
          · refine zr_iconst X dX7_setEnds_70 ?_
            refine zr_goto X 75 dX7_setEnds_71 (by decide) ?_
            refine zr_istoren X dX7_setEnds_75 (by decide) rfl ?_
            refine zr_aloadn X dX7_setEnds_76 rfl ?_
            refine zr_iloadn X dX7_setEnds_77 rfl ?_
            refine zr_put X K (q := (4, 7)) (C := RX7) (T := TX7) (ty0 := tyX7) (N := 20) (k := 6) mM_0 (fun _ => rfl) (by simp [mset]) rfl rfl ti_7 tyX7_ok nmX7 (by decide) rfl tw_706 rfl rfl rfl (Nat.le_of_ble_eq_true rfl) dX7_setEnds_78 ?_
            generalize hm_σ6 : mset σ1 (4, 7) 0 s = σ6
            refine zr_aloadn X dX7_setEnds_81 rfl ?_
            refine zr_iloadn X dX7_setEnds_82 rfl ?_
            refine zr_put X K (q := (4, 8)) (C := RX7) (T := TX7) (ty0 := tyX7) (N := 20) (k := 7) mM_0 (fun _ => rfl) (by simp [mset]) rfl rfl ti_7 tyX7_ok nmX7 (by decide) rfl tw_707 rfl rfl rfl (Nat.le_of_ble_eq_true rfl) dX7_setEnds_83 ?_
            generalize hm_σ7 : mset σ6 (4, 8) 0 t = σ7
            refine zr_iloadn X dX7_setEnds_86 rfl ?_
            refine zr_zret X hr dX7_setEnds_87 (by omega) ?_
            exact Or.inr ⟨by omega, Or.inr ⟨by omega, ((frL_set hm_σ1 (by decide)).tr (frL_set hm_σ6 (by decide))).tr (frL_set hm_σ7 (by decide)), by rw [← hm_σ7, mset_id (by decide), ← hm_σ6, mset_id (by decide)]; exact t1.symm, ⟨by rw [← hm_σ7, mset_id (by decide), ← hm_σ6, mset_same], by rw [← hm_σ7, mset_same]⟩, by omega, by omega⟩⟩
      · refine zr_aloadn X dX7_setEnds_40 rfl ?_
        refine zr_iconst X dX7_setEnds_41 ?_
        refine zr_callVI X K (q := (RX7, TX7, 20)) (st := []) (c_X7_fail l D cs ad hap (σ := σ1) (k := 2)) ⟨tw_769, tw_771, tp_38, tw_8, tw_772⟩ dc_X7_fail mM_0 rfl rfl rfl rfl rfl (Nat.le_of_ble_eq_true rfl) (by decide) dX7_setEnds_42 ?_
        intro z τ hp
        obtain ⟨hτ, hz⟩ := hp
        have htt : τ (4, 1) 0 = 2 := by rw [hτ, mset_same]
        have hqf := hq1.tr (fq_set hτ.symm)
        refine zr_if_eq X 52 dX7_setEnds_45 (by decide) ⟨by omega, by omega⟩ (fun t_45 => ?_) (fun f_45 => ?_)
        · refine zr_iconst X dX7_setEnds_52 ?_
          refine zr_zret X hr dX7_setEnds_53 (by omega) ?_
          first | exact Or.inl ⟨by omega, hqf, htt⟩ | exact Or.inr ⟨by omega, Or.inl ⟨by omega, hqf, htt⟩⟩
        · refine zr_iconst X dX7_setEnds_48 ?_
          refine zr_goto X 53 dX7_setEnds_49 (by decide) ?_
          refine zr_zret X hr dX7_setEnds_53 (by omega) ?_
          first | exact Or.inl ⟨by omega, hqf, htt⟩ | exact Or.inr ⟨by omega, Or.inl ⟨by omega, hqf, htt⟩⟩
    · refine zr_aloadn X dX7_setEnds_21 rfl ?_
      refine zr_iconst X dX7_setEnds_22 ?_
      refine zr_callVI X K (q := (RX7, TX7, 20)) (st := []) (c_X7_fail l D cs ad hap (σ := σ1) (k := 1)) ⟨tw_769, tw_771, tp_38, tw_8, tw_772⟩ dc_X7_fail mM_0 rfl rfl rfl rfl rfl (Nat.le_of_ble_eq_true rfl) (by decide) dX7_setEnds_23 ?_
      intro z τ hp
      obtain ⟨hτ, hz⟩ := hp
      have htt : τ (4, 1) 0 = 1 := by rw [hτ, mset_same]
      have hqf := hq1.tr (fq_set hτ.symm)
      refine zr_if_eq X 33 dX7_setEnds_26 (by decide) ⟨by omega, by omega⟩ (fun t_26 => ?_) (fun f_26 => ?_)
      · refine zr_iconst X dX7_setEnds_33 ?_
        refine zr_zret X hr dX7_setEnds_34 (by omega) ?_
        first | exact Or.inl ⟨by omega, hqf, htt⟩ | exact Or.inr ⟨by omega, Or.inl ⟨by omega, hqf, htt⟩⟩
      · refine zr_iconst X dX7_setEnds_29 ?_
        refine zr_goto X 34 dX7_setEnds_30 (by decide) ?_
        refine zr_zret X hr dX7_setEnds_34 (by omega) ?_
        first | exact Or.inl ⟨by omega, hqf, htt⟩ | exact Or.inr ⟨by omega, Or.inl ⟨by omega, hqf, htt⟩⟩

set_option maxHeartbeats 4000000 in
set_option maxRecDepth 100000 in
theorem c_X7_push (l : Launch) (D : va_G) (cs : Nat → ClassId) (ad : Ix → Nat) (hap : Apart idsM ad) {σ : Mem} (h : mOk σ) : CI l D cs idsM ad yX7_push cX7_push 2 .int 1 [(.ref (ad (4, 0)))] σ (fun z τ => (σ (4, 9) 0 = 8 ∧ fq σ τ ∧ τ (4, 1) 0 = 1) ∨ (σ (4, 9) 0 < 8 ∧ (∃ υ, mPush σ υ (σ (4, 3) 0) ∧ τ = mset υ (4, 9) 0 (σ (4, 9) 0 + 1)) ∧ z = σ (4, 9) 0 + 1)) := by
  refine CI.of RX7 hap idsM_nd (by decide) rfl (Nat.le_of_ble_eq_true rfl) ?_
  intro pg ev s0 mi av bl mt cd X K hr
  have hN0 := h.1
  have hn0 := hN0.1
  have hm0 := hN0.2.1
  have hlv := h.2.2.2.1
  refine zr_aloadn X dX7_push_0 rfl ?_
  refine zr_iconst X dX7_push_1 ?_
  refine zr_put X K (q := (4, 1)) (C := RX7) (T := TX7) (ty0 := tyX7) (N := 20) (k := 0) mM_0 (fun _ => rfl) (by simp [mset]) rfl rfl ti_7 tyX7_ok nmX7 (by decide) rfl tw_700 rfl rfl rfl (Nat.le_of_ble_eq_true rfl) dX7_push_2 ?_
  generalize hm_σ1 : mset σ (4, 1) 0 0 = σ1
  have hq1 : fq σ σ1 := fq_set hm_σ1
  have t1 := congrArg (fun μ : Mem => μ (4, 1) 0) hm_σ1
  have h1 := hq1.ok h
  have hN := h1.1
  have hn := hN.1
  have hm := hN.2.1
  have hE := h1.2.2.1
  have hEs := h.2.2.1
  unfold mEn mEy at hE
  have e7 : σ1 (4, 7) 0 = σ (4, 7) 0 := congrFun (hq1 (4, 7) (by decide)) 0
  have e8 : σ1 (4, 8) 0 = σ (4, 8) 0 := congrFun (hq1 (4, 8) (by decide)) 0
  have e2 : σ1 (4, 2) 0 = σ (4, 2) 0 := congrFun (hq1 (4, 2) (by decide)) 0
  have e3 : σ1 (4, 3) 0 = σ (4, 3) 0 := congrFun (hq1 (4, 3) (by decide)) 0
  have e6 : σ1 (4, 6) = σ (4, 6) := hq1 (4, 6) (by decide)
  have e4 : σ1 (4, 4) = σ (4, 4) := hq1 (4, 4) (by decide)
  have e5 : σ1 (4, 5) = σ (4, 5) := hq1 (4, 5) (by decide)
  simp only [mset_same] at t1
  have e9 : σ1 (4, 9) 0 = σ (4, 9) 0 := congrFun (hq1 (4, 9) (by decide)) 0
  refine zr_aloadn X dX7_push_5 rfl ?_
  refine zr_get X K (C := RX7) (T := TX7) (N := 20) (k := 8) mM_0 rfl rfl ti_7 (by decide) rfl tw_708 rfl dX7_push_6 ?_
  refine zr_bipush X dX7_push_9 rfl ?_
  refine zr_icmp_ne X 20 dX7_push_11 (by decide) ⟨by omega, by omega⟩ ⟨by omega, by omega⟩ (fun t_11 => ?_) (fun f_11 => ?_)
  · refine zr_aloadn X dX7_push_20 rfl ?_
    refine zr_get X K (C := RX7) (T := TX7) (N := 20) (k := 9) mM_0 rfl rfl ti_7 (by decide) rfl tw_709 rfl dX7_push_21 ?_
    refine zr_aloadn X dX7_push_24 rfl ?_
    refine zr_get X K (C := RX7) (T := TX7) (N := 20) (k := 8) mM_0 rfl rfl ti_7 (by decide) rfl tw_708 rfl dX7_push_25 ?_
    refine zr_aloadn X dX7_push_28 rfl ?_
    refine zr_get X K (C := RX7) (T := TX7) (N := 20) (k := 2) mM_0 rfl rfl ti_7 (by decide) rfl tw_702 rfl dX7_push_29 ?_
    refine zr_iast X K (n := 8) mM_10 (fun _ => rfl) rfl (by decide) (by omega) dX7_push_32 ?_
    generalize hm_σ2 : mset σ1 (4, 10) (σ1 (4, 9) 0) (σ1 (4, 3) 0) = σ2
    have a9 : σ2 (4, 9) 0 = σ (4, 9) 0 := by rw [← hm_σ2, mset_id (by decide), e9]
    refine zr_aloadn X dX7_push_33 rfl ?_
    refine zr_get X K (C := RX7) (T := TX7) (N := 20) (k := 11) mM_0 rfl rfl ti_7 (by decide) rfl tw_711 rfl dX7_push_34 ?_
    refine zr_aloadn X dX7_push_37 rfl ?_
    refine zr_get X K (C := RX7) (T := TX7) (N := 20) (k := 8) mM_0 rfl rfl ti_7 (by decide) rfl tw_708 rfl dX7_push_38 ?_
    refine zr_aloadn X dX7_push_41 rfl ?_
    refine zr_get X K (C := RX7) (T := TX7) (N := 20) (k := 6) mM_0 rfl rfl ti_7 (by decide) rfl tw_706 rfl dX7_push_42 ?_
    refine zr_iast X K (n := 8) mM_12 (fun _ => rfl) rfl (by decide) (by omega) dX7_push_45 ?_
    generalize hm_σ3 : mset σ2 (4, 12) (σ2 (4, 9) 0) (σ2 (4, 7) 0) = σ3
    have b9 : σ3 (4, 9) 0 = σ (4, 9) 0 := by rw [← hm_σ3, mset_id (by decide), a9]
    refine zr_aloadn X dX7_push_46 rfl ?_
    refine zr_get X K (C := RX7) (T := TX7) (N := 20) (k := 12) mM_0 rfl rfl ti_7 (by decide) rfl tw_712 rfl dX7_push_47 ?_
    refine zr_aloadn X dX7_push_50 rfl ?_
    refine zr_get X K (C := RX7) (T := TX7) (N := 20) (k := 8) mM_0 rfl rfl ti_7 (by decide) rfl tw_708 rfl dX7_push_51 ?_
    refine zr_aloadn X dX7_push_54 rfl ?_
    refine zr_get X K (C := RX7) (T := TX7) (N := 20) (k := 7) mM_0 rfl rfl ti_7 (by decide) rfl tw_707 rfl dX7_push_55 ?_
    refine zr_iast X K (n := 8) mM_13 (fun _ => rfl) rfl (by decide) (by omega) dX7_push_58 ?_
    generalize hm_σ4 : mset σ3 (4, 13) (σ3 (4, 9) 0) (σ3 (4, 8) 0) = σ4
    have hp0 : mPush σ σ4 0 := by
      refine ⟨(((frL_set hm_σ1 (by decide)).tr (frL_set hm_σ2 (by decide))).tr (frL_set hm_σ3 (by decide))).tr (frL_set hm_σ4 (by decide)), ?_, fun j => ?_, fun j => ?_, fun j => ?_, fun j => ?_⟩
      · rw [← hm_σ4, mset_id (by decide), ← hm_σ3, mset_id (by decide), ← hm_σ2, mset_id (by decide)]; exact t1.symm
      · rw [← hm_σ4, mset_id (by decide), ← hm_σ3, mset_id (by decide), ← hm_σ2, mset_at, e9, e3, hq1 (4, 10) (by decide)]
      · rw [← hm_σ4, mset_id (by decide), ← hm_σ3, mset_at, a9, ← hm_σ2, mset_id (by decide), mset_id (by decide), e7, hq1 (4, 12) (by decide)]
      · rw [← hm_σ4, mset_at, b9, ← hm_σ3, mset_id (by decide), mset_id (by decide), ← hm_σ2, mset_id (by decide), mset_id (by decide), e8, hq1 (4, 13) (by decide)]
      · rw [if_neg (by omega), ← hm_σ4, mset_id (by decide), ← hm_σ3, mset_id (by decide), ← hm_σ2, mset_id (by decide), hq1 (4, 11) (by decide)]
    refine zr_iconst X dX7_push_59 ?_
    refine zr_istoren X dX7_push_60 (by decide) rfl ?_
    have loop_61 : ∀ (n_61 : Nat) (i : Int) (υ : Mem), ((0 ≤ i ∧ i ≤ σ (4, 3) 0) ∧ mPush σ υ i) → (σ (4, 3) 0 - i).toNat < n_61 → Wx pg l ev (rmm 1 0 0) s0 mi av bl mt cd D cs idsM ad (Rg idsM ad) s0.heap 2 (MQ bl (qI D cs idsM ad ((fun z τ => (σ (4, 9) 0 = 8 ∧ fq σ τ ∧ τ (4, 1) 0 = 1) ∨ (σ (4, 9) 0 < 8 ∧ (∃ υ, mPush σ υ (σ (4, 3) 0) ∧ τ = mset υ (4, 9) 0 (σ (4, 9) 0 + 1)) ∧ z = σ (4, 9) 0 + 1)))) av s0 0 0 (Rg idsM ad)) 0 0 υ 61 [some (.ref (ad (4, 0))), some (jI i)] [] := by
      intro n_61
      induction n_61 with
      | zero => exact fun i υ hinv hn => absurd hn (Nat.not_lt_zero _)
      | succ n_61 ih_61 =>
        intro i υ hI_61 hn_61
        have hi0 := hI_61.1
        have hp := hI_61.2
        have u3 : υ (4, 3) 0 = σ (4, 3) 0 := congrFun (hp.1 (4, 3) (by decide)) 0
        have u9 : υ (4, 9) 0 = σ (4, 9) 0 := congrFun (hp.1 (4, 9) (by decide)) 0
        refine zr_iloadn X dX7_push_61 rfl ?_
        refine zr_aloadn X dX7_push_62 rfl ?_
        refine zr_get X K (C := RX7) (T := TX7) (N := 20) (k := 2) mM_0 rfl rfl ti_7 (by decide) rfl tw_702 rfl dX7_push_63 ?_
        refine zr_icmp_ge X 95 dX7_push_66 (by decide) ⟨by omega, by omega⟩ ⟨by omega, by omega⟩ (fun t_66 => ?_) (fun f_66 => ?_)
        · refine zr_aloadn X dX7_push_95 rfl ?_
          refine zr_dup X dX7_push_96 rfl ?_
          refine zr_get X K (C := RX7) (T := TX7) (N := 20) (k := 8) mM_0 rfl rfl ti_7 (by decide) rfl tw_708 rfl dX7_push_97 ?_
          refine zr_iconst X dX7_push_100 ?_
          refine zr_iadd X dX7_push_101 ?_
          refine zr_put X K (q := (4, 9)) (C := RX7) (T := TX7) (ty0 := tyX7) (N := 20) (k := 8) mM_0 (fun _ => rfl) (by simp [mset]) rfl rfl ti_7 tyX7_ok nmX7 (by decide) rfl tw_708 rfl rfl rfl (Nat.le_of_ble_eq_true rfl) dX7_push_102 ?_
          generalize hm_σ5 : mset υ (4, 9) 0 ((υ (4, 9) 0) + 1) = σ5
          refine zr_aloadn X dX7_push_105 rfl ?_
          refine zr_get X K (C := RX7) (T := TX7) (N := 20) (k := 8) mM_0 rfl rfl ti_7 (by decide) rfl tw_708 rfl dX7_push_106 ?_
          refine zr_iret X hr dX7_push_109 ?_
          have hi : i = σ (4, 3) 0 := by omega
          rw [hi] at hp
          exact Or.inr ⟨by omega, ⟨υ, hp, by rw [← hm_σ5, u9]⟩, by rw [← hm_σ5, mset_same, u9]⟩
        · refine zr_aloadn X dX7_push_69 rfl ?_
          refine zr_get X K (C := RX7) (T := TX7) (N := 20) (k := 10) mM_0 rfl rfl ti_7 (by decide) rfl tw_710 rfl dX7_push_70 ?_
          refine zr_bipush X dX7_push_73 rfl ?_
          refine zr_aloadn X dX7_push_75 rfl ?_
          refine zr_get X K (C := RX7) (T := TX7) (N := 20) (k := 8) mM_0 rfl rfl ti_7 (by decide) rfl tw_708 rfl dX7_push_76 ?_
          refine zr_imul X dX7_push_79 ?_
          refine zr_iloadn X dX7_push_80 rfl ?_
          refine zr_iadd X dX7_push_81 ?_
          refine zr_aloadn X dX7_push_82 rfl ?_
          refine zr_get X K (C := RX7) (T := TX7) (N := 20) (k := 5) mM_0 rfl rfl ti_7 (by decide) rfl tw_705 rfl dX7_push_83 ?_
          refine zr_iloadn X dX7_push_86 rfl ?_
          refine zr_iald X K (n := 80) mM_6 rfl (by decide) (by omega) dX7_push_87 ?_
          refine zr_iast X K (n := 640) mM_11 (fun _ => rfl) rfl (by decide) (by omega) dX7_push_88 ?_
          generalize hm_σ6 : mset υ (4, 11) ((80 * (υ (4, 9) 0)) + i) (υ (4, 6) i) = σ6
          refine zr_iinc X dX7_push_89 rfl (by decide) rfl ?_
          refine zr_goto X 61 dX7_push_92 (by decide) ?_
          refine Wx.weak (lo' := [some (.ref (ad (4, 0))), some (jI (i + 1))]) ⟨rfl, rfl, trivial⟩ ?_
          exact ih_61 _ _ ⟨⟨by omega, by omega⟩, mpush_s hi0.1 hp hm_σ6⟩ (by omega)
    refine Wx.weak (lo' := [some (.ref (ad (4, 0))), some (jI 0)]) ⟨rfl, rfl, trivial⟩ ?_
    exact loop_61 _ _ _ ⟨⟨by omega, by omega⟩, hp0⟩ (Nat.lt_succ_self _)
  · refine zr_aloadn X dX7_push_14 rfl ?_
    refine zr_iconst X dX7_push_15 ?_
    refine zr_callVI X K (q := (RX7, TX7, 20)) (st := []) (c_X7_fail l D cs ad hap (σ := σ1) (k := 1)) ⟨tw_769, tw_771, tp_38, tw_8, tw_772⟩ dc_X7_fail mM_0 rfl rfl rfl rfl rfl (Nat.le_of_ble_eq_true rfl) (by decide) dX7_push_16 ?_
    intro z τ hp
    obtain ⟨hτ, hz⟩ := hp
    have htt : τ (4, 1) 0 = 1 := by rw [hτ, mset_same]
    have hqf := hq1.tr (fq_set hτ.symm)
    refine zr_iret X hr dX7_push_19 ?_
    exact Or.inl ⟨by omega, hqf, htt⟩

set_option maxHeartbeats 4000000 in
set_option maxRecDepth 100000 in
theorem c_X7_pop (l : Launch) (D : va_G) (cs : Nat → ClassId) (ad : Ix → Nat) (hap : Apart idsM ad) {σ : Mem} (h : mOk σ) : CI l D cs idsM ad yX7_pop cX7_pop 2 .int 1 [(.ref (ad (4, 0)))] σ (fun z τ => (σ (4, 9) 0 = 0 ∧ fq σ τ ∧ τ (4, 1) 0 = 1) ∨ (0 < σ (4, 9) 0 ∧ mPop σ τ (σ (4, 3) 0) ∧ z = σ (4, 9) 0 - 1)) := by
  refine CI.of RX7 hap idsM_nd (by decide) rfl (Nat.le_of_ble_eq_true rfl) ?_
  intro pg ev s0 mi av bl mt cd X K hr
  have hN0 := h.1
  have hn0 := hN0.1
  have hm0 := hN0.2.1
  have hlv := h.2.2.2.1
  refine zr_aloadn X dX7_pop_0 rfl ?_
  refine zr_iconst X dX7_pop_1 ?_
  refine zr_put X K (q := (4, 1)) (C := RX7) (T := TX7) (ty0 := tyX7) (N := 20) (k := 0) mM_0 (fun _ => rfl) (by simp [mset]) rfl rfl ti_7 tyX7_ok nmX7 (by decide) rfl tw_700 rfl rfl rfl (Nat.le_of_ble_eq_true rfl) dX7_pop_2 ?_
  generalize hm_σ1 : mset σ (4, 1) 0 0 = σ1
  have hq1 : fq σ σ1 := fq_set hm_σ1
  have t1 := congrArg (fun μ : Mem => μ (4, 1) 0) hm_σ1
  have h1 := hq1.ok h
  have hN := h1.1
  have hn := hN.1
  have hm := hN.2.1
  have hE := h1.2.2.1
  have hEs := h.2.2.1
  unfold mEn mEy at hE
  have e7 : σ1 (4, 7) 0 = σ (4, 7) 0 := congrFun (hq1 (4, 7) (by decide)) 0
  have e8 : σ1 (4, 8) 0 = σ (4, 8) 0 := congrFun (hq1 (4, 8) (by decide)) 0
  have e2 : σ1 (4, 2) 0 = σ (4, 2) 0 := congrFun (hq1 (4, 2) (by decide)) 0
  have e3 : σ1 (4, 3) 0 = σ (4, 3) 0 := congrFun (hq1 (4, 3) (by decide)) 0
  have e6 : σ1 (4, 6) = σ (4, 6) := hq1 (4, 6) (by decide)
  have e4 : σ1 (4, 4) = σ (4, 4) := hq1 (4, 4) (by decide)
  have e5 : σ1 (4, 5) = σ (4, 5) := hq1 (4, 5) (by decide)
  simp only [mset_same] at t1
  have e9 : σ1 (4, 9) 0 = σ (4, 9) 0 := congrFun (hq1 (4, 9) (by decide)) 0
  refine zr_aloadn X dX7_pop_5 rfl ?_
  refine zr_get X K (C := RX7) (T := TX7) (N := 20) (k := 8) mM_0 rfl rfl ti_7 (by decide) rfl tw_708 rfl dX7_pop_6 ?_
  refine zr_if_ne X 18 dX7_pop_9 (by decide) ⟨by omega, by omega⟩ (fun t_9 => ?_) (fun f_9 => ?_)
  · refine zr_aloadn X dX7_pop_18 rfl ?_
    refine zr_dup X dX7_pop_19 rfl ?_
    refine zr_get X K (C := RX7) (T := TX7) (N := 20) (k := 8) mM_0 rfl rfl ti_7 (by decide) rfl tw_708 rfl dX7_pop_20 ?_
    refine zr_iconst X dX7_pop_23 ?_
    refine zr_isub X dX7_pop_24 ?_
    refine zr_put X K (q := (4, 9)) (C := RX7) (T := TX7) (ty0 := tyX7) (N := 20) (k := 8) mM_0 (fun _ => rfl) (by simp [mset]) rfl rfl ti_7 tyX7_ok nmX7 (by decide) rfl tw_708 rfl rfl rfl (Nat.le_of_ble_eq_true rfl) dX7_pop_25 ?_
    generalize hm_σ2 : mset σ1 (4, 9) 0 ((σ1 (4, 9) 0) - 1) = σ2
    have a9 : σ2 (4, 9) 0 = σ (4, 9) 0 - 1 := by rw [← hm_σ2, mset_same, e9]
    refine zr_aloadn X dX7_pop_28 rfl ?_
    refine zr_aloadn X dX7_pop_29 rfl ?_
    refine zr_get X K (C := RX7) (T := TX7) (N := 20) (k := 11) mM_0 rfl rfl ti_7 (by decide) rfl tw_711 rfl dX7_pop_30 ?_
    refine zr_aloadn X dX7_pop_33 rfl ?_
    refine zr_get X K (C := RX7) (T := TX7) (N := 20) (k := 8) mM_0 rfl rfl ti_7 (by decide) rfl tw_708 rfl dX7_pop_34 ?_
    refine zr_iald X K (n := 8) mM_12 rfl (by decide) (by omega) dX7_pop_37 ?_
    refine zr_put X K (q := (4, 7)) (C := RX7) (T := TX7) (ty0 := tyX7) (N := 20) (k := 6) mM_0 (fun _ => rfl) (by simp [mset]) rfl rfl ti_7 tyX7_ok nmX7 (by decide) rfl tw_706 rfl rfl rfl (Nat.le_of_ble_eq_true rfl) dX7_pop_38 ?_
    generalize hm_σ3 : mset σ2 (4, 7) 0 (σ2 (4, 12) (σ2 (4, 9) 0)) = σ3
    have b9 : σ3 (4, 9) 0 = σ (4, 9) 0 - 1 := by rw [← hm_σ3, mset_id (by decide), a9]
    refine zr_aloadn X dX7_pop_41 rfl ?_
    refine zr_aloadn X dX7_pop_42 rfl ?_
    refine zr_get X K (C := RX7) (T := TX7) (N := 20) (k := 12) mM_0 rfl rfl ti_7 (by decide) rfl tw_712 rfl dX7_pop_43 ?_
    refine zr_aloadn X dX7_pop_46 rfl ?_
    refine zr_get X K (C := RX7) (T := TX7) (N := 20) (k := 8) mM_0 rfl rfl ti_7 (by decide) rfl tw_708 rfl dX7_pop_47 ?_
    refine zr_iald X K (n := 8) mM_13 rfl (by decide) (by omega) dX7_pop_50 ?_
    refine zr_put X K (q := (4, 8)) (C := RX7) (T := TX7) (ty0 := tyX7) (N := 20) (k := 7) mM_0 (fun _ => rfl) (by simp [mset]) rfl rfl ti_7 tyX7_ok nmX7 (by decide) rfl tw_707 rfl rfl rfl (Nat.le_of_ble_eq_true rfl) dX7_pop_51 ?_
    generalize hm_σ4 : mset σ3 (4, 8) 0 (σ3 (4, 13) (σ3 (4, 9) 0)) = σ4
    have hp0 : mPop σ σ4 0 := by
      refine ⟨(((frL_set hm_σ1 (by decide)).tr (frL_set hm_σ2 (by decide))).tr (frL_set hm_σ3 (by decide))).tr (frL_set hm_σ4 (by decide)), ?_, ?_, ?_, ?_, fun j => ?_⟩
      · rw [← hm_σ4, mset_id (by decide), ← hm_σ3, mset_id (by decide), ← hm_σ2, mset_id (by decide)]; exact t1.symm
      · rw [← hm_σ4, mset_id (by decide), b9]
      · rw [← hm_σ4, mset_id (by decide), ← hm_σ3, mset_same, a9, ← hm_σ2, mset_id (by decide), hq1 (4, 12) (by decide)]
      · rw [← hm_σ4, mset_same, b9, ← hm_σ3, mset_id (by decide), ← hm_σ2, mset_id (by decide), hq1 (4, 13) (by decide)]
      · rw [if_neg (by omega), ← hm_σ4, mset_id (by decide), ← hm_σ3, mset_id (by decide), ← hm_σ2, mset_id (by decide), e6]
    refine zr_iconst X dX7_pop_54 ?_
    refine zr_istoren X dX7_pop_55 (by decide) rfl ?_
    have loop_56 : ∀ (n_56 : Nat) (i : Int) (υ : Mem), ((0 ≤ i ∧ i ≤ σ (4, 3) 0) ∧ mPop σ υ i) → (σ (4, 3) 0 - i).toNat < n_56 → Wx pg l ev (rmm 1 0 0) s0 mi av bl mt cd D cs idsM ad (Rg idsM ad) s0.heap 2 (MQ bl (qI D cs idsM ad ((fun z τ => (σ (4, 9) 0 = 0 ∧ fq σ τ ∧ τ (4, 1) 0 = 1) ∨ (0 < σ (4, 9) 0 ∧ mPop σ τ (σ (4, 3) 0) ∧ z = σ (4, 9) 0 - 1)))) av s0 0 0 (Rg idsM ad)) 0 0 υ 56 [some (.ref (ad (4, 0))), some (jI i)] [] := by
      intro n_56
      induction n_56 with
      | zero => exact fun i υ hinv hn => absurd hn (Nat.not_lt_zero _)
      | succ n_56 ih_56 =>
        intro i υ hI_56 hn_56
        have hi0 := hI_56.1
        have hp := hI_56.2
        have u3 : υ (4, 3) 0 = σ (4, 3) 0 := congrFun (hp.1 (4, 3) (by decide)) 0
        have u9 := hp.2.2.1
        have hL := h.2.2.2.2.2 (σ (4, 9) 0 - 1) (by omega) (by omega)
        have u10 : υ (4, 10) (υ (4, 9) 0) = σ (4, 10) (σ (4, 9) 0 - 1) := by rw [u9, hp.1 (4, 10) (by decide)]
        have u11 : υ (4, 11) (80 * υ (4, 9) 0 + i) = σ (4, 11) (80 * (σ (4, 9) 0 - 1) + i) := by rw [u9, hp.1 (4, 11) (by decide)]
        refine zr_iloadn X dX7_pop_56 rfl ?_
        refine zr_aloadn X dX7_pop_57 rfl ?_
        refine zr_get X K (C := RX7) (T := TX7) (N := 20) (k := 2) mM_0 rfl rfl ti_7 (by decide) rfl tw_702 rfl dX7_pop_58 ?_
        refine zr_icmp_ge X 107 dX7_pop_61 (by decide) ⟨by omega, by omega⟩ ⟨by omega, by omega⟩ (fun t_61 => ?_) (fun f_61 => ?_)
        · refine zr_aloadn X dX7_pop_107 rfl ?_
          refine zr_get X K (C := RX7) (T := TX7) (N := 20) (k := 8) mM_0 rfl rfl ti_7 (by decide) rfl tw_708 rfl dX7_pop_108 ?_
          refine zr_iret X hr dX7_pop_111 ?_
          have hi : i = σ (4, 3) 0 := by omega
          rw [hi] at hp
          exact Or.inr ⟨by omega, hp, u9⟩
        · refine zr_aloadn X dX7_pop_64 rfl ?_
          refine zr_get X K (C := RX7) (T := TX7) (N := 20) (k := 5) mM_0 rfl rfl ti_7 (by decide) rfl tw_705 rfl dX7_pop_65 ?_
          refine zr_iloadn X dX7_pop_68 rfl ?_
          refine zr_iloadn X dX7_pop_69 rfl ?_
          refine zr_aloadn X dX7_pop_70 rfl ?_
          refine zr_get X K (C := RX7) (T := TX7) (N := 20) (k := 9) mM_0 rfl rfl ti_7 (by decide) rfl tw_709 rfl dX7_pop_71 ?_
          refine zr_aloadn X dX7_pop_74 rfl ?_
          refine zr_get X K (C := RX7) (T := TX7) (N := 20) (k := 8) mM_0 rfl rfl ti_7 (by decide) rfl tw_708 rfl dX7_pop_75 ?_
          refine zr_iald X K (n := 8) mM_10 rfl (by decide) (by omega) dX7_pop_78 ?_
          refine zr_icmp_ge X 99 dX7_pop_79 (by decide) ⟨by omega, by omega⟩ ⟨by omega, by omega⟩ (fun t_79 => ?_) (fun f_79 => ?_)
          · refine zr_iconst X dX7_pop_99 ?_
            refine zr_iast X K (n := 80) mM_6 (fun _ => rfl) rfl (by decide) (by omega) dX7_pop_100 ?_
            generalize hm_σ5 : mset υ (4, 6) i 0 = σ5
            refine zr_iinc X dX7_pop_101 rfl (by decide) rfl ?_
            refine zr_goto X 56 dX7_pop_104 (by decide) ?_
            refine Wx.weak (lo' := [some (.ref (ad (4, 0))), some (jI (i + 1))]) ⟨rfl, rfl, trivial⟩ ?_
            exact ih_56 _ _ ⟨⟨by omega, by omega⟩, mpop_s hi0.1 hp (by first | (rw [if_pos (by omega)]; exact u11) | (rw [if_neg (by omega)])) hm_σ5⟩ (by omega)
          · refine zr_aloadn X dX7_pop_82 rfl ?_
            refine zr_get X K (C := RX7) (T := TX7) (N := 20) (k := 10) mM_0 rfl rfl ti_7 (by decide) rfl tw_710 rfl dX7_pop_83 ?_
            refine zr_bipush X dX7_pop_86 rfl ?_
            refine zr_aloadn X dX7_pop_88 rfl ?_
            refine zr_get X K (C := RX7) (T := TX7) (N := 20) (k := 8) mM_0 rfl rfl ti_7 (by decide) rfl tw_708 rfl dX7_pop_89 ?_
            refine zr_imul X dX7_pop_92 ?_
            refine zr_iloadn X dX7_pop_93 rfl ?_
            refine zr_iadd X dX7_pop_94 ?_
            refine zr_iald X K (n := 640) mM_11 rfl (by decide) (by omega) dX7_pop_95 ?_
            refine zr_goto X 100 dX7_pop_96 (by decide) ?_
            refine zr_iast X K (n := 80) mM_6 (fun _ => rfl) rfl (by decide) (by omega) dX7_pop_100 ?_
            generalize hm_σ6 : mset υ (4, 6) i (υ (4, 11) ((80 * (υ (4, 9) 0)) + i)) = σ6
            refine zr_iinc X dX7_pop_101 rfl (by decide) rfl ?_
            refine zr_goto X 56 dX7_pop_104 (by decide) ?_
            refine Wx.weak (lo' := [some (.ref (ad (4, 0))), some (jI (i + 1))]) ⟨rfl, rfl, trivial⟩ ?_
            exact ih_56 _ _ ⟨⟨by omega, by omega⟩, mpop_s hi0.1 hp (by first | (rw [if_pos (by omega)]; exact u11) | (rw [if_neg (by omega)])) hm_σ6⟩ (by omega)
    refine Wx.weak (lo' := [some (.ref (ad (4, 0))), some (jI 0)]) ⟨rfl, rfl, trivial⟩ ?_
    exact loop_56 _ _ _ ⟨⟨by omega, by omega⟩, hp0⟩ (Nat.lt_succ_self _)
  · refine zr_aloadn X dX7_pop_12 rfl ?_
    refine zr_iconst X dX7_pop_13 ?_
    refine zr_callVI X K (q := (RX7, TX7, 20)) (st := []) (c_X7_fail l D cs ad hap (σ := σ1) (k := 1)) ⟨tw_769, tw_771, tp_38, tw_8, tw_772⟩ dc_X7_fail mM_0 rfl rfl rfl rfl rfl (Nat.le_of_ble_eq_true rfl) (by decide) dX7_pop_14 ?_
    intro z τ hp
    obtain ⟨hτ, hz⟩ := hp
    have htt : τ (4, 1) 0 = 1 := by rw [hτ, mset_same]
    have hqf := hq1.tr (fq_set hτ.symm)
    refine zr_iret X hr dX7_pop_17 ?_
    exact Or.inl ⟨by omega, hqf, htt⟩
