/-! THE REFERENCE: questions about the maximum -/
def fq (σ τ : Mem) : Prop := ∀ p : Ix, p ∉ [((4, 1) : Ix), (4, 16), (4, 17), (4, 18), (4, 19), (4, 20)] → τ p = σ p
theorem fq.tr {σ τ υ : Mem} (h : fq σ τ) (k : fq τ υ) : fq σ υ := fun p hp => (k p hp).trans (h p hp)
theorem fq_set {σ τ : Mem} {k : Int} (e : mset σ (4, 1) 0 k = τ) : fq σ τ := fun p hp => by
  simp only [List.mem_cons, List.not_mem_nil, or_false, not_or] at hp
  rw [← e, mset_id hp.1]
theorem fq_x {σ τ : Mem} (e : frX σ τ) : fq σ τ := fun p hp => by
  simp only [List.mem_cons, List.not_mem_nil, or_false, not_or] at hp
  exact e p (by simp only [List.mem_cons, List.not_mem_nil, or_false, not_or]; exact ⟨hp.2.1, hp.2.2.1, hp.2.2.2.1, hp.2.2.2.2.1⟩)
theorem fq.ok {σ τ : Mem} (f : fq σ τ) (h : mOk σ) : mOk τ := by
  unfold mOk mNet mEn mEy at h ⊢
  simp only [f (4, 2) (by decide), f (4, 3) (by decide), f (4, 4) (by decide), f (4, 5) (by decide), f (4, 6) (by decide), f (4, 7) (by decide), f (4, 8) (by decide), f (4, 9) (by decide), f (4, 10) (by decide), f (4, 11) (by decide), f (4, 12) (by decide), f (4, 13) (by decide), f (4, 15) (by decide)]
  exact h
theorem fq.ey {σ τ : Mem} (f : fq σ τ) (h : mEy σ) : mEy τ := by
  unfold mEy at h ⊢
  rw [f (4, 2) (by decide), f (4, 7) (by decide), f (4, 8) (by decide)]
  exact h
theorem fq.mn {σ τ : Mem} (f : fq σ τ) {c : Int → Int} {s t v : Int} (h : mnM τ c s t v) : mnM σ c s t v := by
  unfold mnM at h ⊢
  rw [f (4, 3) (by decide), f (4, 4) (by decide), f (4, 5) (by decide)] at h
  exact h
theorem mOk.c2 {σ : Mem} (h : mOk σ) : ∀ a, 0 ≤ a → a < σ (4, 3) 0 → 0 ≤ σ (4, 6) a ∧ σ (4, 6) a ≤ 200000000 := fun a a0 a1 => by
  have := h.2.1 a a0 a1
  omega
theorem mOk.cut {σ : Mem} (h : mOk σ) (hE : mEy σ) : cut2 σ (σ (4, 6)) (σ (4, 7) 0) (σ (4, 8) 0) := cut2_s h.1.2.1 hE.2.2 fun a a0 a1 => by
  have := h.2.1 a a0 a1
  omega
theorem mOk.cutu {σ : Mem} (h : mOk σ) (hE : mEy σ) {a c : Int} (hc : c ≤ 1000001) : cut2 σ (updC (σ (4, 6)) a c) (σ (4, 7) 0) (σ (4, 8) 0) := cut2_s h.1.2.1 hE.2.2 fun j j0 j1 => by
  have := h.2.1 j j0 j1
  unfold updC
  split <;> omega
theorem mEn_no {σ : Mem} (h : mEn σ) (k : mEy σ) : False := by
  unfold mEn at h
  unfold mEy at k
  omega
/-- with one arc that can carry all, there is still a cut -/
theorem cut2_h {σ : Mem} (h : mOk σ) (hE : mEy σ) {a x : Int} (hn : ¬ (σ (4, 4) a = σ (4, 7) 0 ∧ σ (4, 5) a = σ (4, 8) 0)) : cut2 σ (updC (σ (4, 6)) a x) (σ (4, 7) 0) (σ (4, 8) 0) := by
  have hm := h.1.2.1
  have key : ∀ X : Int → Bool, (X (σ (4, 4) a) = true ∧ ¬ X (σ (4, 5) a) = true → False) → gcp (σ (4, 3) 0).toNat (σ (4, 4)) (σ (4, 5)) (updC (σ (4, 6)) a x) X < 200000000 := fun X hX => by
    have : gcp (σ (4, 3) 0).toNat (σ (4, 4)) (σ (4, 5)) (updC (σ (4, 6)) a x) X ≤ 80000000 := sm_80 (by omega) fun j j0 j1 => by
      show (if X (σ (4, 4) j) = true ∧ ¬ X (σ (4, 5) j) = true then updC (σ (4, 6)) a x j else 0) ≤ (1000000 : Int)
      by_cases e : j = a
      · rw [if_neg (by rw [e]; exact hX)]
        decide
      · rw [show updC (σ (4, 6)) a x j = σ (4, 6) j from if_neg e]
        have := h.2.1 j j0 (by omega)
        split
        · exact this.2
        · decide
    omega
  by_cases q : σ (4, 4) a = σ (4, 7) 0
  · exact ⟨fun v => decide (v ≠ σ (4, 8) 0), decide_eq_true hE.2.2, fun g => of_decide_eq_true g rfl, key _ (fun g => g.2 (decide_eq_true (fun e => hn ⟨q, e⟩)))⟩
  · exact ⟨fun v => decide (v = σ (4, 7) 0), decide_eq_true rfl, fun g => hE.2.2 (of_decide_eq_true g).symm, key _ (fun g => q (of_decide_eq_true g.1))⟩

set_option maxHeartbeats 4000000 in
set_option maxRecDepth 100000 in
theorem c_X7_nodeCount (l : Launch) (D : va_G) (cs : Nat → ClassId) (ad : Ix → Nat) (hap : Apart idsM ad) {σ : Mem} (h : mOk σ) : CI l D cs idsM ad yX7_nodeCount cX7_nodeCount 1 .int 0 [(.ref (ad (4, 0)))] σ (fun z τ => fq σ τ ∧ z = σ (4, 2) 0) := by
  refine CI.of RX7 hap idsM_nd (by decide) rfl (Nat.le_of_ble_eq_true rfl) ?_
  intro pg ev s0 mi av bl mt cd X K hr
  refine zr_aloadn X dX7_nodeCount_0 rfl ?_
  refine zr_iconst X dX7_nodeCount_1 ?_
  refine zr_put X K (q := (4, 1)) (C := RX7) (T := TX7) (ty0 := tyX7) (N := 20) (k := 0) mM_0 (fun _ => rfl) (by simp [mset]) rfl rfl ti_7 tyX7_ok nmX7 (by decide) rfl tw_700 rfl rfl rfl (Nat.le_of_ble_eq_true rfl) dX7_nodeCount_2 ?_
  generalize hm_σ1 : mset σ (4, 1) 0 0 = σ1
  have hq1 : fq σ σ1 := fq_set hm_σ1
  have t1 := congrArg (fun μ : Mem => μ (4, 1) 0) hm_σ1
  have h1 := hq1.ok h
  have hN := h1.1
  have hn := hN.1
  have hm := hN.2.1
  have hE := h1.2.2.1
  have hEs := h.2.2.1
  unfold mEn mEy at hE
  have e7 : σ1 (4, 7) 0 = σ (4, 7) 0 := congrFun (hq1 (4, 7) (by decide)) 0
  have e8 : σ1 (4, 8) 0 = σ (4, 8) 0 := congrFun (hq1 (4, 8) (by decide)) 0
  have e2 : σ1 (4, 2) 0 = σ (4, 2) 0 := congrFun (hq1 (4, 2) (by decide)) 0
  have e3 : σ1 (4, 3) 0 = σ (4, 3) 0 := congrFun (hq1 (4, 3) (by decide)) 0
  have e6 : σ1 (4, 6) = σ (4, 6) := hq1 (4, 6) (by decide)
  have e4 : σ1 (4, 4) = σ (4, 4) := hq1 (4, 4) (by decide)
  have e5 : σ1 (4, 5) = σ (4, 5) := hq1 (4, 5) (by decide)
  simp only [mset_same] at t1
  refine zr_aloadn X dX7_nodeCount_5 rfl ?_
  refine zr_get X K (C := RX7) (T := TX7) (N := 20) (k := 1) mM_0 rfl rfl ti_7 (by decide) rfl tw_701 rfl dX7_nodeCount_6 ?_
  refine zr_iret X hr dX7_nodeCount_9 ?_
  exact ⟨hq1, e2⟩

set_option maxHeartbeats 4000000 in
set_option maxRecDepth 100000 in
theorem c_X7_arcCount (l : Launch) (D : va_G) (cs : Nat → ClassId) (ad : Ix → Nat) (hap : Apart idsM ad) {σ : Mem} (h : mOk σ) : CI l D cs idsM ad yX7_arcCount cX7_arcCount 1 .int 0 [(.ref (ad (4, 0)))] σ (fun z τ => fq σ τ ∧ z = σ (4, 3) 0) := by
  refine CI.of RX7 hap idsM_nd (by decide) rfl (Nat.le_of_ble_eq_true rfl) ?_
  intro pg ev s0 mi av bl mt cd X K hr
  refine zr_aloadn X dX7_arcCount_0 rfl ?_
  refine zr_iconst X dX7_arcCount_1 ?_
  refine zr_put X K (q := (4, 1)) (C := RX7) (T := TX7) (ty0 := tyX7) (N := 20) (k := 0) mM_0 (fun _ => rfl) (by simp [mset]) rfl rfl ti_7 tyX7_ok nmX7 (by decide) rfl tw_700 rfl rfl rfl (Nat.le_of_ble_eq_true rfl) dX7_arcCount_2 ?_
  generalize hm_σ1 : mset σ (4, 1) 0 0 = σ1
  have hq1 : fq σ σ1 := fq_set hm_σ1
  have t1 := congrArg (fun μ : Mem => μ (4, 1) 0) hm_σ1
  have h1 := hq1.ok h
  have hN := h1.1
  have hn := hN.1
  have hm := hN.2.1
  have hE := h1.2.2.1
  have hEs := h.2.2.1
  unfold mEn mEy at hE
  have e7 : σ1 (4, 7) 0 = σ (4, 7) 0 := congrFun (hq1 (4, 7) (by decide)) 0
  have e8 : σ1 (4, 8) 0 = σ (4, 8) 0 := congrFun (hq1 (4, 8) (by decide)) 0
  have e2 : σ1 (4, 2) 0 = σ (4, 2) 0 := congrFun (hq1 (4, 2) (by decide)) 0
  have e3 : σ1 (4, 3) 0 = σ (4, 3) 0 := congrFun (hq1 (4, 3) (by decide)) 0
  have e6 : σ1 (4, 6) = σ (4, 6) := hq1 (4, 6) (by decide)
  have e4 : σ1 (4, 4) = σ (4, 4) := hq1 (4, 4) (by decide)
  have e5 : σ1 (4, 5) = σ (4, 5) := hq1 (4, 5) (by decide)
  simp only [mset_same] at t1
  refine zr_aloadn X dX7_arcCount_5 rfl ?_
  refine zr_get X K (C := RX7) (T := TX7) (N := 20) (k := 2) mM_0 rfl rfl ti_7 (by decide) rfl tw_702 rfl dX7_arcCount_6 ?_
  refine zr_iret X hr dX7_arcCount_9 ?_
  exact ⟨hq1, e3⟩

set_option maxHeartbeats 4000000 in
set_option maxRecDepth 100000 in
theorem c_X7_capacity (l : Launch) (D : va_G) (cs : Nat → ClassId) (ad : Ix → Nat) (hap : Apart idsM ad) {σ : Mem} (h : mOk σ) {a : Int} (ha : rg a) : CI l D cs idsM ad yX7_capacity cX7_capacity 2 .int 1 [(.ref (ad (4, 0))), (jI a)] σ (fun z τ => fq σ τ ∧ ((¬ (0 ≤ a ∧ a < σ (4, 3) 0) ∧ τ (4, 1) 0 = 1) ∨ ((0 ≤ a ∧ a < σ (4, 3) 0) ∧ τ (4, 1) 0 = 0 ∧ z = σ (4, 6) a))) := by
  refine CI.of RX7 hap idsM_nd (by decide) rfl (Nat.le_of_ble_eq_true rfl) ?_
  intro pg ev s0 mi av bl mt cd X K hr
  refine zr_aloadn X dX7_capacity_0 rfl ?_
  refine zr_iconst X dX7_capacity_1 ?_
  refine zr_put X K (q := (4, 1)) (C := RX7) (T := TX7) (ty0 := tyX7) (N := 20) (k := 0) mM_0 (fun _ => rfl) (by simp [mset]) rfl rfl ti_7 tyX7_ok nmX7 (by decide) rfl tw_700 rfl rfl rfl (Nat.le_of_ble_eq_true rfl) dX7_capacity_2 ?_
  generalize hm_σ1 : mset σ (4, 1) 0 0 = σ1
  have hq1 : fq σ σ1 := fq_set hm_σ1
  have t1 := congrArg (fun μ : Mem => μ (4, 1) 0) hm_σ1
  have h1 := hq1.ok h
  have hN := h1.1
  have hn := hN.1
  have hm := hN.2.1
  have hE := h1.2.2.1
  have hEs := h.2.2.1
  unfold mEn mEy at hE
  have e7 : σ1 (4, 7) 0 = σ (4, 7) 0 := congrFun (hq1 (4, 7) (by decide)) 0
  have e8 : σ1 (4, 8) 0 = σ (4, 8) 0 := congrFun (hq1 (4, 8) (by decide)) 0
  have e2 : σ1 (4, 2) 0 = σ (4, 2) 0 := congrFun (hq1 (4, 2) (by decide)) 0
  have e3 : σ1 (4, 3) 0 = σ (4, 3) 0 := congrFun (hq1 (4, 3) (by decide)) 0
  have e6 : σ1 (4, 6) = σ (4, 6) := hq1 (4, 6) (by decide)
  have e4 : σ1 (4, 4) = σ (4, 4) := hq1 (4, 4) (by decide)
  have e5 : σ1 (4, 5) = σ (4, 5) := hq1 (4, 5) (by decide)
  simp only [mset_same] at t1
  refine zr_aloadn X dX7_capacity_5 rfl ?_
  refine zr_iloadn X dX7_capacity_6 rfl ?_
  refine zr_callVI X K (q := (RX7, TX7, 20)) (st := []) (c_X7_isArc l D cs ad hap (σ := σ1) hN (v := a) ha) ⟨tw_789, tw_791, tp_40, tw_8, tw_792⟩ dc_X7_isArc mM_0 rfl rfl rfl rfl rfl (Nat.le_of_ble_eq_true rfl) (by decide) dX7_capacity_7 ?_
  intro y τ_ hp_
  obtain ⟨hτ_, hy01, hy⟩ := hp_
  subst τ_
  refine zr_if_eq X 22 dX7_capacity_10 (by decide) (by rcases hy01 with q | q <;> exact ⟨by omega, by omega⟩) (fun t_10 => ?_) (fun f_10 => ?_)
  · refine zr_aloadn X dX7_capacity_22 rfl ?_
    refine zr_iconst X dX7_capacity_23 ?_
    refine zr_callVI X K (q := (RX7, TX7, 20)) (st := []) (c_X7_fail l D cs ad hap (σ := σ1) (k := 1)) ⟨tw_769, tw_771, tp_38, tw_8, tw_772⟩ dc_X7_fail mM_0 rfl rfl rfl rfl rfl (Nat.le_of_ble_eq_true rfl) (by decide) dX7_capacity_24 ?_
    intro z τ hp
    obtain ⟨hτ, hz⟩ := hp
    have htt : τ (4, 1) 0 = 1 := by rw [hτ, mset_same]
    have hqf := hq1.tr (fq_set hτ.symm)
    refine zr_iret X hr dX7_capacity_27 ?_
    exact ⟨hqf, Or.inl ⟨by omega, htt⟩⟩
  · refine zr_aloadn X dX7_capacity_13 rfl ?_
    refine zr_get X K (C := RX7) (T := TX7) (N := 20) (k := 5) mM_0 rfl rfl ti_7 (by decide) rfl tw_705 rfl dX7_capacity_14 ?_
    refine zr_iloadn X dX7_capacity_17 rfl ?_
    refine zr_iald X K (n := 80) mM_6 rfl (by decide) (by omega) dX7_capacity_18 ?_
    refine zr_goto X 27 dX7_capacity_19 (by decide) ?_
    refine zr_iret X hr dX7_capacity_27 ?_
    exact ⟨hq1, Or.inr ⟨by omega, t1.symm, congrFun e6 a⟩⟩

set_option maxHeartbeats 4000000 in
set_option maxRecDepth 100000 in
theorem c_X7_maximum (l : Launch) (D : va_G) (cs : Nat → ClassId) (ad : Ix → Nat) (hap : Apart idsM ad) {σ : Mem} (h : mOk σ) : CI l D cs idsM ad yX7_maximum cX7_maximum 1 .int 3 [(.ref (ad (4, 0)))] σ (fun z τ => fq σ τ ∧ ((mEn σ ∧ τ (4, 1) 0 = 1) ∨ (mEy σ ∧ τ (4, 1) 0 = 0 ∧ mnM σ (σ (4, 6)) (σ (4, 7) 0) (σ (4, 8) 0) z))) := by
  refine CI.of RX7 hap idsM_nd (by decide) rfl (Nat.le_of_ble_eq_true rfl) ?_
  intro pg ev s0 mi av bl mt cd X K hr
  refine zr_aloadn X dX7_maximum_0 rfl ?_
  refine zr_iconst X dX7_maximum_1 ?_
  refine zr_put X K (q := (4, 1)) (C := RX7) (T := TX7) (ty0 := tyX7) (N := 20) (k := 0) mM_0 (fun _ => rfl) (by simp [mset]) rfl rfl ti_7 tyX7_ok nmX7 (by decide) rfl tw_700 rfl rfl rfl (Nat.le_of_ble_eq_true rfl) dX7_maximum_2 ?_
  generalize hm_σ1 : mset σ (4, 1) 0 0 = σ1
  have hq1 : fq σ σ1 := fq_set hm_σ1
  have t1 := congrArg (fun μ : Mem => μ (4, 1) 0) hm_σ1
  have h1 := hq1.ok h
  have hN := h1.1
  have hn := hN.1
  have hm := hN.2.1
  have hE := h1.2.2.1
  have hEs := h.2.2.1
  unfold mEn mEy at hE
  have e7 : σ1 (4, 7) 0 = σ (4, 7) 0 := congrFun (hq1 (4, 7) (by decide)) 0
  have e8 : σ1 (4, 8) 0 = σ (4, 8) 0 := congrFun (hq1 (4, 8) (by decide)) 0
  have e2 : σ1 (4, 2) 0 = σ (4, 2) 0 := congrFun (hq1 (4, 2) (by decide)) 0
  have e3 : σ1 (4, 3) 0 = σ (4, 3) 0 := congrFun (hq1 (4, 3) (by decide)) 0
  have e6 : σ1 (4, 6) = σ (4, 6) := hq1 (4, 6) (by decide)
  have e4 : σ1 (4, 4) = σ (4, 4) := hq1 (4, 4) (by decide)
  have e5 : σ1 (4, 5) = σ (4, 5) := hq1 (4, 5) (by decide)
  simp only [mset_same] at t1
  refine zr_aloadn X dX7_maximum_5 rfl ?_
  refine zr_get X K (C := RX7) (T := TX7) (N := 20) (k := 6) mM_0 rfl rfl ti_7 (by decide) rfl tw_706 rfl dX7_maximum_6 ?_
  refine zr_iconst X dX7_maximum_9 ?_
  refine zr_icmp_ne X 21 dX7_maximum_10 (by decide) ⟨by omega, by omega⟩ ⟨by omega, by omega⟩ (fun t_10 => ?_) (fun f_10 => ?_)
  · have hEy : mEy σ := hEs.resolve_left (fun q => by unfold mEn at q; omega)
    have hEy1 := hq1.ey hEy
    refine zr_aloadn X dX7_maximum_21 rfl ?_
    refine zr_callVI X K (q := (RX7, TX7, 20)) (st := []) (c_X7_maximumNow l D cs ad hap (σ := σ1) hN h1.c2 hEy1 (h1.cut hEy1)) ⟨tw_845, tw_847, tp_41, tw_8, tw_848⟩ dc_X7_maximumNow mM_0 rfl rfl rfl rfl rfl (Nat.le_of_ble_eq_true rfl) (by decide) dX7_maximum_22 ?_
    intro z τ2 hst
    have hqx := hq1.tr (fq_x hst.1)
    have hmn := hq1.mn (mst_mn hm.1 hst)
    rw [e6, e7, e8] at hmn
    have tx : τ2 (4, 1) 0 = σ1 (4, 1) 0 := congrFun (hst.1 (4, 1) (by decide)) 0
    refine zr_iret X hr dX7_maximum_25 ?_
    exact ⟨hqx, Or.inr ⟨hEy, by omega, hmn⟩⟩
  · have hEn : mEn σ := hEs.resolve_right (fun q => by unfold mEy at q; omega)
    refine zr_aloadn X dX7_maximum_13 rfl ?_
    refine zr_iconst X dX7_maximum_14 ?_
    refine zr_callVI X K (q := (RX7, TX7, 20)) (st := []) (c_X7_fail l D cs ad hap (σ := σ1) (k := 1)) ⟨tw_769, tw_771, tp_38, tw_8, tw_772⟩ dc_X7_fail mM_0 rfl rfl rfl rfl rfl (Nat.le_of_ble_eq_true rfl) (by decide) dX7_maximum_15 ?_
    intro z τ hp
    obtain ⟨hτ, hz⟩ := hp
    have htt : τ (4, 1) 0 = 1 := by rw [hτ, mset_same]
    have hqf := hq1.tr (fq_set hτ.symm)
    refine zr_goto X 25 dX7_maximum_18 (by decide) ?_
    refine zr_iret X hr dX7_maximum_25 ?_
    exact ⟨hqf, Or.inl ⟨hEn, htt⟩⟩

set_option maxHeartbeats 4000000 in
set_option maxRecDepth 100000 in
theorem c_X7_maximumWith (l : Launch) (D : va_G) (cs : Nat → ClassId) (ad : Ix → Nat) (hap : Apart idsM ad) {σ : Mem} (h : mOk σ) {a c : Int} (ha : rg a) (hc : rg c) : CI l D cs idsM ad yX7_maximumWith cX7_maximumWith 3 .int 4 [(.ref (ad (4, 0))), (jI a), (jI c)] σ (fun z τ => fq σ τ ∧ (((mEn σ ∧ τ (4, 1) 0 = 1) ∨ (mEy σ ∧ ¬ (0 ≤ a ∧ a < σ (4, 3) 0) ∧ τ (4, 1) 0 = 2)) ∨ ((mEy σ ∧ (0 ≤ a ∧ a < σ (4, 3) 0)) ∧ ((¬ (0 ≤ c ∧ c ≤ 1000000) ∧ τ (4, 1) 0 = 3) ∨ ((0 ≤ c ∧ c ≤ 1000000) ∧ τ (4, 1) 0 = 0 ∧ mnM σ (updC (σ (4, 6)) a c) (σ (4, 7) 0) (σ (4, 8) 0) z))))) := by
  refine CI.of RX7 hap idsM_nd (by decide) rfl (Nat.le_of_ble_eq_true rfl) ?_
  intro pg ev s0 mi av bl mt cd X K hr
  refine zr_aloadn X dX7_maximumWith_0 rfl ?_
  refine zr_aloadn X dX7_maximumWith_1 rfl ?_
  refine zr_iloadn X dX7_maximumWith_2 rfl ?_
  refine zr_callVI X K (q := (RX7, TX7, 20)) (st := [(.ref (ad (4, 0)))]) (c_X7_look l D cs ad hap (σ := σ) h (a := a) ha) ⟨tw_871, tw_873, tp_46, tw_8, tw_874⟩ dc_X7_look mM_0 rfl rfl rfl rfl rfl (Nat.le_of_ble_eq_true rfl) (by decide) dX7_maximumWith_3 ?_
  intro y τ_ hp_
  obtain ⟨hτ_, hy⟩ := hp_
  subst τ_
  refine zr_put X K (q := (4, 1)) (C := RX7) (T := TX7) (ty0 := tyX7) (N := 20) (k := 0) mM_0 (fun _ => rfl) (by simp [mset]) rfl rfl ti_7 tyX7_ok nmX7 (by decide) rfl tw_700 rfl rfl rfl (Nat.le_of_ble_eq_true rfl) dX7_maximumWith_6 ?_
  generalize hm_σ1 : mset σ (4, 1) 0 y = σ1
  have hq1 : fq σ σ1 := fq_set hm_σ1
  have t1 := congrArg (fun μ : Mem => μ (4, 1) 0) hm_σ1
  have h1 := hq1.ok h
  have hN := h1.1
  have hn := hN.1
  have hm := hN.2.1
  have hE := h1.2.2.1
  have hEs := h.2.2.1
  unfold mEn mEy at hE
  have e7 : σ1 (4, 7) 0 = σ (4, 7) 0 := congrFun (hq1 (4, 7) (by decide)) 0
  have e8 : σ1 (4, 8) 0 = σ (4, 8) 0 := congrFun (hq1 (4, 8) (by decide)) 0
  have e2 : σ1 (4, 2) 0 = σ (4, 2) 0 := congrFun (hq1 (4, 2) (by decide)) 0
  have e3 : σ1 (4, 3) 0 = σ (4, 3) 0 := congrFun (hq1 (4, 3) (by decide)) 0
  have e6 : σ1 (4, 6) = σ (4, 6) := hq1 (4, 6) (by decide)
  have e4 : σ1 (4, 4) = σ (4, 4) := hq1 (4, 4) (by decide)
  have e5 : σ1 (4, 5) = σ (4, 5) := hq1 (4, 5) (by decide)
  simp only [mset_same] at t1
  have hya : rg (σ1 (4, 1) 0) := by
    rw [← t1]
    rcases hy with q | q | q <;> exact ⟨by omega, by omega⟩
  refine zr_aloadn X dX7_maximumWith_9 rfl ?_
  refine zr_get X K (C := RX7) (T := TX7) (N := 20) (k := 0) mM_0 rfl rfl ti_7 (by decide) rfl tw_700 rfl dX7_maximumWith_10 ?_
  refine zr_if_eq X 18 dX7_maximumWith_13 (by decide) hya (fun t_13 => ?_) (fun f_13 => ?_)
  · have hyz : y = 0 ∧ mEy σ ∧ (0 ≤ a ∧ a < σ (4, 3) 0) := by
      rcases hy with q | q | q
      · omega
      · omega
      · exact q
    have hEy := hyz.2.1
    have hEy1 := hq1.ey hEy
    have hA : 0 ≤ a ∧ a < σ1 (4, 3) 0 := by omega
    have hNa := hN.2.2 a hA.1 hA.2
    refine zr_iloadn X dX7_maximumWith_18 rfl ?_
    refine zr_callSI X K (st := []) (c_X7_isCapacity l D cs ad hap (σ := σ1) (v := c) hc) ⟨tw_781, tw_782, tw_8, tw_783⟩ dc_X7_isCapacity rfl rfl (Nat.le_of_ble_eq_true rfl) (by decide) dX7_maximumWith_19 ?_
    intro x τ_ hp_
    obtain ⟨hτ_, hx01, hx⟩ := hp_
    subst τ_
    refine zr_if_eq X 34 dX7_maximumWith_22 (by decide) (by rcases hx01 with q | q <;> exact ⟨by omega, by omega⟩) (fun t_22 => ?_) (fun f_22 => ?_)
    · refine zr_aloadn X dX7_maximumWith_34 rfl ?_
      refine zr_iconst X dX7_maximumWith_35 ?_
      refine zr_callVI X K (q := (RX7, TX7, 20)) (st := []) (c_X7_fail l D cs ad hap (σ := σ1) (k := 3)) ⟨tw_769, tw_771, tp_38, tw_8, tw_772⟩ dc_X7_fail mM_0 rfl rfl rfl rfl rfl (Nat.le_of_ble_eq_true rfl) (by decide) dX7_maximumWith_36 ?_
      intro z τ hp
      obtain ⟨hτ, hz⟩ := hp
      have htt : τ (4, 1) 0 = 3 := by rw [hτ, mset_same]
      have hqf := hq1.tr (fq_set hτ.symm)
      refine zr_iret X hr dX7_maximumWith_39 ?_
      exact ⟨hqf, Or.inr ⟨hyz.2, Or.inl ⟨by omega, htt⟩⟩⟩
    · refine zr_aloadn X dX7_maximumWith_25 rfl ?_
      refine zr_iloadn X dX7_maximumWith_26 rfl ?_
      refine zr_iloadn X dX7_maximumWith_27 rfl ?_
      refine zr_callVI X K (q := (RX7, TX7, 20)) (st := []) (c_X7_maximumIf l D cs ad hap (σ := σ1) hN h1.c2 hEy1 (a := a) (c := c) hA ⟨by omega, by omega⟩ (h1.cutu hEy1 (by omega))) ⟨tw_875, tw_877, tp_47, tw_8, tw_878⟩ dc_X7_maximumIf mM_0 rfl rfl rfl rfl rfl (Nat.le_of_ble_eq_true rfl) (by decide) dX7_maximumWith_28 ?_
      intro z τ2 hmi
      have hqx := hq1.tr (fq_x hmi.1)
      have hmn := hq1.mn hmi.2
      rw [e6, e7, e8] at hmn
      have tx : τ2 (4, 1) 0 = σ1 (4, 1) 0 := congrFun (hmi.1 (4, 1) (by decide)) 0
      refine zr_goto X 39 dX7_maximumWith_31 (by decide) ?_
      refine zr_iret X hr dX7_maximumWith_39 ?_
      exact ⟨hqx, Or.inr ⟨hyz.2, Or.inr ⟨by omega, by omega, hmn⟩⟩⟩
  · have hlk : (mEn σ ∧ σ1 (4, 1) 0 = 1) ∨ (mEy σ ∧ ¬ (0 ≤ a ∧ a < σ (4, 3) 0) ∧ σ1 (4, 1) 0 = 2) := by
      rcases hy with q | q | q
      · exact Or.inl ⟨q.2, by omega⟩
      · exact Or.inr ⟨q.2.1, q.2.2, by omega⟩
      · omega
    refine zr_iconst X dX7_maximumWith_16 ?_
    refine zr_iret X hr dX7_maximumWith_17 ?_
    exact ⟨hq1, Or.inl hlk⟩

def lfM (σ : Mem) (a z : Int) : Prop := ∃ F F0, mnM σ (σ (4, 6)) (σ (4, 7) 0) (σ (4, 8) 0) F ∧ mnM σ (updC (σ (4, 6)) a 0) (σ (4, 7) 0) (σ (4, 8) 0) F0 ∧ z = F - F0
set_option maxHeartbeats 4000000 in
set_option maxRecDepth 100000 in
theorem c_X7_leastFlow (l : Launch) (D : va_G) (cs : Nat → ClassId) (ad : Ix → Nat) (hap : Apart idsM ad) {σ : Mem} (h : mOk σ) {a : Int} (ha : rg a) : CI l D cs idsM ad yX7_leastFlow cX7_leastFlow 2 .int 4 [(.ref (ad (4, 0))), (jI a)] σ (fun z τ => fq σ τ ∧ (((mEn σ ∧ τ (4, 1) 0 = 1) ∨ (mEy σ ∧ ¬ (0 ≤ a ∧ a < σ (4, 3) 0) ∧ τ (4, 1) 0 = 2)) ∨ ((mEy σ ∧ (0 ≤ a ∧ a < σ (4, 3) 0)) ∧ τ (4, 1) 0 = 0 ∧ lfM σ a z))) := by
  refine CI.of RX7 hap idsM_nd (by decide) rfl (Nat.le_of_ble_eq_true rfl) ?_
  intro pg ev s0 mi av bl mt cd X K hr
  refine zr_aloadn X dX7_leastFlow_0 rfl ?_
  refine zr_aloadn X dX7_leastFlow_1 rfl ?_
  refine zr_iloadn X dX7_leastFlow_2 rfl ?_
  refine zr_callVI X K (q := (RX7, TX7, 20)) (st := [(.ref (ad (4, 0)))]) (c_X7_look l D cs ad hap (σ := σ) h (a := a) ha) ⟨tw_871, tw_873, tp_46, tw_8, tw_874⟩ dc_X7_look mM_0 rfl rfl rfl rfl rfl (Nat.le_of_ble_eq_true rfl) (by decide) dX7_leastFlow_3 ?_
  intro y τ_ hp_
  obtain ⟨hτ_, hy⟩ := hp_
  subst τ_
  refine zr_put X K (q := (4, 1)) (C := RX7) (T := TX7) (ty0 := tyX7) (N := 20) (k := 0) mM_0 (fun _ => rfl) (by simp [mset]) rfl rfl ti_7 tyX7_ok nmX7 (by decide) rfl tw_700 rfl rfl rfl (Nat.le_of_ble_eq_true rfl) dX7_leastFlow_6 ?_
  generalize hm_σ1 : mset σ (4, 1) 0 y = σ1
  have hq1 : fq σ σ1 := fq_set hm_σ1
  have t1 := congrArg (fun μ : Mem => μ (4, 1) 0) hm_σ1
  have h1 := hq1.ok h
  have hN := h1.1
  have hn := hN.1
  have hm := hN.2.1
  have hE := h1.2.2.1
  have hEs := h.2.2.1
  unfold mEn mEy at hE
  have e7 : σ1 (4, 7) 0 = σ (4, 7) 0 := congrFun (hq1 (4, 7) (by decide)) 0
  have e8 : σ1 (4, 8) 0 = σ (4, 8) 0 := congrFun (hq1 (4, 8) (by decide)) 0
  have e2 : σ1 (4, 2) 0 = σ (4, 2) 0 := congrFun (hq1 (4, 2) (by decide)) 0
  have e3 : σ1 (4, 3) 0 = σ (4, 3) 0 := congrFun (hq1 (4, 3) (by decide)) 0
  have e6 : σ1 (4, 6) = σ (4, 6) := hq1 (4, 6) (by decide)
  have e4 : σ1 (4, 4) = σ (4, 4) := hq1 (4, 4) (by decide)
  have e5 : σ1 (4, 5) = σ (4, 5) := hq1 (4, 5) (by decide)
  simp only [mset_same] at t1
  have hya : rg (σ1 (4, 1) 0) := by
    rw [← t1]
    rcases hy with q | q | q <;> exact ⟨by omega, by omega⟩
  refine zr_aloadn X dX7_leastFlow_9 rfl ?_
  refine zr_get X K (C := RX7) (T := TX7) (N := 20) (k := 0) mM_0 rfl rfl ti_7 (by decide) rfl tw_700 rfl dX7_leastFlow_10 ?_
  refine zr_if_ne X 30 dX7_leastFlow_13 (by decide) hya (fun t_13 => ?_) (fun f_13 => ?_)
  · have hlk : (mEn σ ∧ σ1 (4, 1) 0 = 1) ∨ (mEy σ ∧ ¬ (0 ≤ a ∧ a < σ (4, 3) 0) ∧ σ1 (4, 1) 0 = 2) := by
      rcases hy with q | q | q
      · exact Or.inl ⟨q.2, by omega⟩
      · exact Or.inr ⟨q.2.1, q.2.2, by omega⟩
      · omega
    refine zr_iconst X dX7_leastFlow_30 ?_
    refine zr_iret X hr dX7_leastFlow_31 ?_
    exact ⟨hq1, Or.inl hlk⟩
  · have hyz : y = 0 ∧ mEy σ ∧ (0 ≤ a ∧ a < σ (4, 3) 0) := by
      rcases hy with q | q | q
      · omega
      · omega
      · exact q
    have hEy := hyz.2.1
    have hEy1 := hq1.ey hEy
    have hA : 0 ≤ a ∧ a < σ1 (4, 3) 0 := by omega
    have hNa := hN.2.2 a hA.1 hA.2
    refine zr_aloadn X dX7_leastFlow_16 rfl ?_
    refine zr_callVI X K (q := (RX7, TX7, 20)) (st := []) (c_X7_maximumNow l D cs ad hap (σ := σ1) hN h1.c2 hEy1 (h1.cut hEy1)) ⟨tw_845, tw_847, tp_41, tw_8, tw_848⟩ dc_X7_maximumNow mM_0 rfl rfl rfl rfl rfl (Nat.le_of_ble_eq_true rfl) (by decide) dX7_leastFlow_17 ?_
    intro F τ1 hst
    have hqx := hq1.tr (fq_x hst.1)
    have hmn := hq1.mn (mst_mn hm.1 hst)
    rw [e6, e7, e8] at hmn
    have tx : τ1 (4, 1) 0 = σ1 (4, 1) 0 := congrFun (hst.1 (4, 1) (by decide)) 0
    have h2 := (fq_x hst.1).ok h1
    have hE2 := (fq_x hst.1).ey hEy1
    have hqa := (fq_x hst.1)
    have w3 : τ1 (4, 3) 0 = σ1 (4, 3) 0 := congrFun (hqa (4, 3) (by decide)) 0
    have w6 : τ1 (4, 6) = σ (4, 6) := (hqa (4, 6) (by decide)).trans e6
    have w7 : τ1 (4, 7) 0 = σ (4, 7) 0 := (congrFun (hqa (4, 7) (by decide)) 0).trans e7
    have w8 : τ1 (4, 8) 0 = σ (4, 8) 0 := (congrFun (hqa (4, 8) (by decide)) 0).trans e8
    have hA2 : 0 ≤ a ∧ a < τ1 (4, 3) 0 := by omega
    refine zr_aloadn X dX7_leastFlow_20 rfl ?_
    refine zr_iloadn X dX7_leastFlow_21 rfl ?_
    refine zr_iconst X dX7_leastFlow_22 ?_
    refine zr_callVI X K (q := (RX7, TX7, 20)) (st := [(jI F)]) (c_X7_maximumIf l D cs ad hap (σ := τ1) h2.1 h2.c2 hE2 (a := a) (c := 0) hA2 ⟨by omega, by omega⟩ (h2.cutu hE2 (by omega))) ⟨tw_875, tw_877, tp_47, tw_8, tw_878⟩ dc_X7_maximumIf mM_0 rfl rfl rfl rfl rfl (Nat.le_of_ble_eq_true rfl) (by decide) dX7_leastFlow_23 ?_
    intro F0 τ hmi
    refine zr_isub X dX7_leastFlow_26 ?_
    refine zr_goto X 31 dX7_leastFlow_27 (by decide) ?_
    refine zr_iret X hr dX7_leastFlow_31 ?_
    have hqy := hqx.tr (fq_x hmi.1)
    have hm2 := hqx.mn hmi.2
    rw [w6, w7, w8] at hm2
    have ty : τ (4, 1) 0 = τ1 (4, 1) 0 := congrFun (hmi.1 (4, 1) (by decide)) 0
    exact ⟨hqy, Or.inr ⟨hyz.2, by omega, F, F0, hmn, hm2, rfl⟩⟩

def hrM (σ : Mem) (a z : Int) : Prop := ((σ (4, 4) a = σ (4, 7) 0 ∧ σ (4, 5) a = σ (4, 8) 0) ∧ z = -1) ∨ (¬ (σ (4, 4) a = σ (4, 7) 0 ∧ σ (4, 5) a = σ (4, 8) 0) ∧ ∃ F F1, mnM σ (σ (4, 6)) (σ (4, 7) 0) (σ (4, 8) 0) F ∧ mnM σ (updC (σ (4, 6)) a 200000000) (σ (4, 7) 0) (σ (4, 8) 0) F1 ∧ z = F1 - F)
def liM (σ : Mem) (a z : Int) : Prop := ∃ F F1, mnM σ (σ (4, 6)) (σ (4, 7) 0) (σ (4, 8) 0) F ∧ mnM σ (updC (σ (4, 6)) a (σ (4, 6) a + 1)) (σ (4, 7) 0) (σ (4, 8) 0) F1 ∧ (z = 0 ∨ z = 1) ∧ (z = 1 ↔ F < F1)
theorem mn_rg2 {σ : Mem} (h : mOk σ) {s t F a x : Int} (hx : 0 ≤ x) (k : mnM σ (updC (σ (4, 6)) a x) s t F) (hb : cut2 σ (updC (σ (4, 6)) a x) s t) : 0 ≤ F ∧ F < 200000000 := by
  have hm := h.1.2.1
  obtain ⟨⟨X, x1, x2, x3⟩, k2⟩ := k
  obtain ⟨Y, y1, y2, y3⟩ := hb
  have := k2 Y y1 y2
  refine ⟨?_, by omega⟩
  rw [← x3]
  refine gcp_nn (fun j j0 j1 => ?_) X
  have := h.2.1 j j0 (by omega)
  unfold updC
  split <;> omega