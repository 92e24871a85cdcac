/-! THE REFERENCE: more questions about the maximum -/
theorem mn_rg1 {σ : Mem} (h : mOk σ) (hE : mEy σ) {F : Int} (k : mnM σ (σ (4, 6)) (σ (4, 7) 0) (σ (4, 8) 0) F) : 0 ≤ F ∧ F < 200000000 := by
  have e : updC (σ (4, 6)) (-1) 0 = updC (σ (4, 6)) (-1) 0 := rfl
  have hm := h.1.2.1
  obtain ⟨⟨X, x1, x2, x3⟩, k2⟩ := k
  obtain ⟨Y, y1, y2, y3⟩ := h.cut hE
  have := k2 Y y1 y2
  refine ⟨?_, by omega⟩
  rw [← x3]
  exact gcp_nn (fun j j0 j1 => (h.2.1 j j0 (by omega)).1) X
def gfM (σ : Mem) (a z : Int) : Prop := ∃ F, mnM σ (σ (4, 6)) (σ (4, 7) 0) (σ (4, 8) 0) F ∧ z ≤ σ (4, 6) a ∧ (∀ X : Int → Bool, X (σ (4, 5) a) = true → ¬ X (σ (4, 4) a) = true → ind X (σ (4, 7) 0) F - ind X (σ (4, 8) 0) F + z ≤ gcp (σ (4, 3) 0).toNat (σ (4, 4)) (σ (4, 5)) (σ (4, 6)) X) ∧ (z = σ (4, 6) a ∨ ∃ X : Int → Bool, X (σ (4, 5) a) = true ∧ ¬ X (σ (4, 4) a) = true ∧ ind X (σ (4, 7) 0) F - ind X (σ (4, 8) 0) F + z = gcp (σ (4, 3) 0).toNat (σ (4, 4)) (σ (4, 5)) (σ (4, 6)) X)
theorem gfm_of {σ τ1 σ2 σ3 τ : Mem} {a F r : Int} (hm : 0 ≤ σ (4, 3) 0) (ha : 0 ≤ a ∧ a < σ (4, 3) 0) (hst : mstP σ τ1 (σ (4, 6)) (σ (4, 7) 0) (σ (4, 8) 0) F) (e1 : mset τ1 (4, 16) a 0 = σ2) (e2 : mset σ2 (4, 17) a 0 = σ3) (k : fiP σ3 τ (σ (4, 5) a) (σ (4, 4) a) (τ1 (4, 16) a) r) : frX σ τ ∧ gfM σ a (τ1 (4, 17) a + r) := by
  have hM := mst_mn hm hst
  obtain ⟨f, s, g, z0, -⟩ := hst
  obtain ⟨⟨k1, k2, k3, k4⟩, k5⟩ := k
  have q3 : ∀ p : Ix, p ≠ (4, 16) → p ≠ (4, 17) → σ3 p = τ1 p := fun p p1 p2 => by rw [← e2, mset_id p2, ← e1, mset_id p1]
  have q16 : ∀ j, σ3 (4, 16) j = if j = a then 0 else τ1 (4, 16) j := fun j => by rw [← e2, mset_id (by decide), ← e1, mset_at]
  have q17 : ∀ j, σ3 (4, 17) j = if j = a then 0 else τ1 (4, 17) j := fun j => by rw [← e2, mset_at, ← e1, mset_id (by decide)]
  have t3 : σ3 (4, 3) = σ (4, 3) := (q3 _ (by decide) (by decide)).trans (f _ (by decide))
  have t4 : σ3 (4, 4) = σ (4, 4) := (q3 _ (by decide) (by decide)).trans (f _ (by decide))
  have t5 : σ3 (4, 5) = σ (4, 5) := (q3 _ (by decide) (by decide)).trans (f _ (by decide))
  have u3 : τ (4, 3) = σ (4, 3) := (k1 _ (by decide)).trans t3
  have u4 : τ (4, 4) = σ (4, 4) := (k1 _ (by decide)).trans t4
  have u5 : τ (4, 5) = σ (4, 5) := (k1 _ (by decide)).trans t5
  have sa := s a ha.1 ha.2
  have hfx : frX σ τ := fun p hp => by
    rw [k1 p hp]
    have h1 := f p hp
    simp only [List.mem_cons, List.not_mem_nil, or_false, not_or] at hp
    rw [q3 p hp.1 hp.2.1, h1]
  have hr : ∀ j : Int, 0 ≤ j → j < ((σ (4, 3) 0).toNat : Int) → 0 ≤ τ (4, 16) j ∧ 0 ≤ τ (4, 17) j ∧ τ (4, 16) j + τ (4, 17) j = updC (σ (4, 6)) a 0 j := fun j j0 j1 => by
    have h1 := k2 j j0 (by rw [t3]; omega)
    have h2 := s j j0 (by omega)
    rw [q16, q17] at h1
    unfold updC
    by_cases q : j = a
    · rw [if_pos q] at h1 ⊢
      rw [if_pos q] at h1
      omega
    · rw [if_neg q] at h1 ⊢
      rw [if_neg q] at h1
      omega
  have hC : ∀ X : Int → Bool, ¬ X (σ (4, 4) a) = true → gcp (σ (4, 3) 0).toNat (σ (4, 4)) (σ (4, 5)) (updC (σ (4, 6)) a 0) X = gcp (σ (4, 3) 0).toNat (σ (4, 4)) (σ (4, 5)) (σ (4, 6)) X := fun X x2 => by
    refine sm_cong fun j j0 j1 => ?_
    show (if X (σ (4, 4) j) = true ∧ ¬ X (σ (4, 5) j) = true then updC (σ (4, 6)) a 0 j else 0) = if X (σ (4, 4) j) = true ∧ ¬ X (σ (4, 5) j) = true then σ (4, 6) j else 0
    by_cases q : j = a
    · subst q
      rw [if_neg (fun g => x2 g.1), if_neg (fun g => x2 g.1)]
    · rw [show updC (σ (4, 6)) a 0 j = σ (4, 6) j from if_neg q]
  have hG : ∀ X : Int → Bool, X (σ (4, 5) a) = true → ¬ X (σ (4, 4) a) = true → gnM τ X = ind X (σ (4, 7) 0) F - ind X (σ (4, 8) 0) F + (τ1 (4, 17) a + r) := fun X x1 x2 => by
    have w3 : τ1 (4, 3) = σ (4, 3) := f _ (by decide)
    have w4 : τ1 (4, 4) = σ (4, 4) := f _ (by decide)
    have w5 : τ1 (4, 5) = σ (4, 5) := f _ (by decide)
    have h1 := gn_upd (σ := τ1) (τ := σ3) (a := a) (x := -τ1 (4, 17) a) (X := X) (by rw [w3]; exact ha) (q3 _ (by decide) (by decide)) (q3 _ (by decide) (by decide)) (q3 _ (by decide) (by decide)) (fun j => by
      rw [q17]
      by_cases q : j = a
      · rw [if_pos q, if_pos q]; omega
      · rw [if_neg q, if_neg q])
    rw [k4 X, h1, g X, w4, w5, ind_t x1, ind_f x2, ind_f x2, ind_t x1]
    omega
  have hgn : ∀ X, gnM τ X = gnet (σ (4, 3) 0).toNat (σ (4, 4)) (σ (4, 5)) (τ (4, 17)) X := fun X => by
    unfold gnM
    rw [u3, u4, u5]
  refine ⟨hfx, F, hM, by omega, fun X x1 x2 => ?_, ?_⟩
  · rw [← hG X x1 x2, ← hC X x2, hgn]
    exact g_le (fun j j0 j1 => by have := hr j j0 j1; omega) X
  · rcases k5 with q | ⟨X, x1, x2, x3⟩
    · exact Or.inl (by omega)
    · refine Or.inr ⟨X, x1, x2, ?_⟩
      rw [← hG X x1 x2, ← hC X x2, hgn]
      unfold rcl at x3
      rw [u3, u4, u5] at x3
      exact g_clo hr x3
/-- without a node -/
def woM (σ : Mem) (v i : Int) : Int → Int := fun j => if j < i ∧ (σ (4, 4) j = v ∨ σ (4, 5) j = v) then 0 else σ (4, 6) j
def woI (σ υ : Mem) (v i : Int) : Prop := frX σ υ ∧ ∀ a, 0 ≤ a → a < σ (4, 3) 0 → υ (4, 16) a = woM σ v i a ∧ υ (4, 17) a = 0
theorem wom_0 {σ υ : Mem} {v : Int} (h : emI σ υ (σ (4, 3) 0)) : woI σ υ v 0 := ⟨h.1, fun a a0 a1 => by
  rw [show woM σ v 0 a = σ (4, 6) a from if_neg (fun q => by omega)]
  exact h.2 a a0 a1⟩
theorem wom_n {σ υ : Mem} {v i : Int} (h : woI σ υ v i) (hn : ¬ (σ (4, 4) i = v ∨ σ (4, 5) i = v)) : woI σ υ v (i + 1) := ⟨h.1, fun a a0 a1 => by
  have : woM σ v (i + 1) a = woM σ v i a := by
    unfold woM
    by_cases e : a = i
    · rw [if_neg (fun q => by rw [e] at q; exact hn q.2), if_neg (fun q => by omega)]
    · by_cases g : a < i
      · simp only [g, show a < i + 1 by omega, true_and]
      · rw [if_neg (fun q => by omega), if_neg (fun q => g q.1)]
  rw [this]
  exact h.2 a a0 a1⟩
theorem wom_y {σ υ τ : Mem} {v i : Int} (h : woI σ υ v i) (hy : σ (4, 4) i = v ∨ σ (4, 5) i = v) (e : mset υ (4, 16) i 0 = τ) : woI σ τ v (i + 1) := ⟨fun p hp => by
  have h1 := h.1 p hp
  simp only [List.mem_cons, List.not_mem_nil, or_false, not_or] at hp
  rw [← e, mset_id hp.1, h1], fun a a0 a1 => by
  rw [← e, mset_at, mset_id (by decide)]
  have := h.2 a a0 a1
  by_cases q : a = i
  · rw [if_pos q]
    exact ⟨(if_pos ⟨by omega, by rw [q]; exact hy⟩).symm, this.2⟩
  · rw [if_neg q]
    refine ⟨this.1.trans ?_, this.2⟩
    unfold woM
    by_cases g : a < i
    · simp only [g, show a < i + 1 by omega, true_and]
    · rw [if_neg (fun q => g q.1), if_neg (fun q => by omega)]⟩
theorem wom_rg {σ : Mem} (h : mOk σ) {v i : Int} : ∀ a, 0 ≤ a → a < σ (4, 3) 0 → 0 ≤ woM σ v i a ∧ woM σ v i a ≤ 1000000 := fun a a0 a1 => by
  have := h.2.1 a a0 a1
  unfold woM
  split <;> omega
def outM (σ : Mem) : Int → Int := fun a => if σ (4, 4) a = σ (4, 7) 0 then σ (4, 6) a else 0
def utM (σ : Mem) (y : UInt64) : Prop := (sm (outM σ) (σ (4, 3) 0).toNat = 0 ∧ y = 0) ∨ (sm (outM σ) (σ (4, 3) 0).toNat ≠ 0 ∧ ∃ F, mnM σ (σ (4, 6)) (σ (4, 7) 0) (σ (4, 8) 0) F ∧ y = FP.ddiv (FP.i2d (iI F)) (FP.i2d (iI (sm (outM σ) (σ (4, 3) 0).toNat))))
theorem outM_rg {σ : Mem} (h : mOk σ) : 0 ≤ sm (outM σ) (σ (4, 3) 0).toNat ∧ sm (outM σ) (σ (4, 3) 0).toNat ≤ 80000000 := by
  have hm := h.1.2.1
  refine ⟨sm_nn fun a a0 a1 => ?_, sm_80 (by omega) fun a a0 a1 => ?_⟩
  · have := h.2.1 a a0 (by omega)
    unfold outM
    split <;> omega
  · have := h.2.1 a a0 (by omega)
    unfold outM
    split <;> omega

set_option maxHeartbeats 4000000 in
set_option maxRecDepth 100000 in
theorem c_X7_headroom (l : Launch) (D : va_G) (cs : Nat → ClassId) (ad : Ix → Nat) (hap : Apart idsM ad) {σ : Mem} (h : mOk σ) {a : Int} (ha : rg a) : CI l D cs idsM ad yX7_headroom cX7_headroom 2 .int 4 [(.ref (ad (4, 0))), (jI a)] σ (fun z τ => fq σ τ ∧ (((mEn σ ∧ τ (4, 1) 0 = 1) ∨ (mEy σ ∧ ¬ (0 ≤ a ∧ a < σ (4, 3) 0) ∧ τ (4, 1) 0 = 2)) ∨ ((mEy σ ∧ (0 ≤ a ∧ a < σ (4, 3) 0)) ∧ τ (4, 1) 0 = 0 ∧ hrM σ a z))) := by
  refine CI.of RX7 hap idsM_nd (by decide) rfl (Nat.le_of_ble_eq_true rfl) ?_
  intro pg ev s0 mi av bl mt cd X K hr
  refine zr_aloadn X dX7_headroom_0 rfl ?_
  refine zr_aloadn X dX7_headroom_1 rfl ?_
  refine zr_iloadn X dX7_headroom_2 rfl ?_
  refine zr_callVI X K (q := (RX7, TX7, 20)) (st := [(.ref (ad (4, 0)))]) (c_X7_look l D cs ad hap (σ := σ) h (a := a) ha) ⟨tw_871, tw_873, tp_46, tw_8, tw_874⟩ dc_X7_look mM_0 rfl rfl rfl rfl rfl (Nat.le_of_ble_eq_true rfl) (by decide) dX7_headroom_3 ?_
  intro y τ_ hp_
  obtain ⟨hτ_, hy⟩ := hp_
  subst τ_
  refine zr_put X K (q := (4, 1)) (C := RX7) (T := TX7) (ty0 := tyX7) (N := 20) (k := 0) mM_0 (fun _ => rfl) (by simp [mset]) rfl rfl ti_7 tyX7_ok nmX7 (by decide) rfl tw_700 rfl rfl rfl (Nat.le_of_ble_eq_true rfl) dX7_headroom_6 ?_
  generalize hm_σ1 : mset σ (4, 1) 0 y = σ1
  have hq1 : fq σ σ1 := fq_set hm_σ1
  have t1 := congrArg (fun μ : Mem => μ (4, 1) 0) hm_σ1
  have h1 := hq1.ok h
  have hN := h1.1
  have hn := hN.1
  have hm := hN.2.1
  have hE := h1.2.2.1
  have hEs := h.2.2.1
  unfold mEn mEy at hE
  have e7 : σ1 (4, 7) 0 = σ (4, 7) 0 := congrFun (hq1 (4, 7) (by decide)) 0
  have e8 : σ1 (4, 8) 0 = σ (4, 8) 0 := congrFun (hq1 (4, 8) (by decide)) 0
  have e2 : σ1 (4, 2) 0 = σ (4, 2) 0 := congrFun (hq1 (4, 2) (by decide)) 0
  have e3 : σ1 (4, 3) 0 = σ (4, 3) 0 := congrFun (hq1 (4, 3) (by decide)) 0
  have e6 : σ1 (4, 6) = σ (4, 6) := hq1 (4, 6) (by decide)
  have e4 : σ1 (4, 4) = σ (4, 4) := hq1 (4, 4) (by decide)
  have e5 : σ1 (4, 5) = σ (4, 5) := hq1 (4, 5) (by decide)
  simp only [mset_same] at t1
  have hya : rg (σ1 (4, 1) 0) := by
    rw [← t1]
    rcases hy with q | q | q <;> exact ⟨by omega, by omega⟩
  refine zr_aloadn X dX7_headroom_9 rfl ?_
  refine zr_get X K (C := RX7) (T := TX7) (N := 20) (k := 0) mM_0 rfl rfl ti_7 (by decide) rfl tw_700 rfl dX7_headroom_10 ?_
  refine zr_if_eq X 18 dX7_headroom_13 (by decide) hya (fun t_13 => ?_) (fun f_13 => ?_)
  · have hyz : y = 0 ∧ mEy σ ∧ (0 ≤ a ∧ a < σ (4, 3) 0) := by
      rcases hy with q | q | q
      · omega
      · omega
      · exact q
    have hEy := hyz.2.1
    have hEy1 := hq1.ey hEy
    have hA : 0 ≤ a ∧ a < σ1 (4, 3) 0 := by omega
    have hNa := hN.2.2 a hA.1 hA.2
    have f4 := congrFun e4 a
    have f5 := congrFun e5 a
    refine zr_aloadn X dX7_headroom_18 rfl ?_
    refine zr_get X K (C := RX7) (T := TX7) (N := 20) (k := 3) mM_0 rfl rfl ti_7 (by decide) rfl tw_703 rfl dX7_headroom_19 ?_
    refine zr_iloadn X dX7_headroom_22 rfl ?_
    refine zr_iald X K (n := 80) mM_4 rfl (by decide) (by omega) dX7_headroom_23 ?_
    refine zr_aloadn X dX7_headroom_24 rfl ?_
    refine zr_get X K (C := RX7) (T := TX7) (N := 20) (k := 6) mM_0 rfl rfl ti_7 (by decide) rfl tw_706 rfl dX7_headroom_25 ?_
    refine zr_icmp_ne X 46 dX7_headroom_28 (by decide) ⟨by omega, by omega⟩ ⟨by omega, by omega⟩ (fun t_28 => ?_) (fun f_28 => ?_)
    · refine zr_aloadn X dX7_headroom_46 rfl ?_
      refine zr_iloadn X dX7_headroom_47 rfl ?_
      refine zr_ldc (n := 200000000) X dX7_headroom_48 tw_853 rfl ?_
      refine zr_callVI X K (q := (RX7, TX7, 20)) (st := []) (c_X7_maximumIf l D cs ad hap (σ := σ1) h1.1 h1.c2 hEy1 (a := a) (c := 200000000) hA ⟨by omega, by omega⟩ (cut2_h h1 hEy1 (by omega))) ⟨tw_875, tw_877, tp_47, tw_8, tw_878⟩ dc_X7_maximumIf mM_0 rfl rfl rfl rfl rfl (Nat.le_of_ble_eq_true rfl) (by decide) dX7_headroom_50 ?_
      intro F1 τ0 hmi
      have hqb := fq_x hmi.1
      have hF1 := hq1.mn hmi.2
      rw [e6, e7, e8] at hF1
      have h2 := hqb.ok h1
      have hE2 := hqb.ey hEy1
      have w6 : τ0 (4, 6) = σ (4, 6) := (hqb (4, 6) (by decide)).trans e6
      have w7 : τ0 (4, 7) 0 = σ (4, 7) 0 := (congrFun (hqb (4, 7) (by decide)) 0).trans e7
      have w8 : τ0 (4, 8) 0 = σ (4, 8) 0 := (congrFun (hqb (4, 8) (by decide)) 0).trans e8
      have w1 : τ0 (4, 1) 0 = σ1 (4, 1) 0 := congrFun (hmi.1 (4, 1) (by decide)) 0
      refine zr_aloadn X dX7_headroom_53 rfl ?_
      refine zr_callVI X K (q := (RX7, TX7, 20)) (st := [(jI F1)]) (c_X7_maximumNow l D cs ad hap (σ := τ0) h2.1 h2.c2 hE2 (h2.cut hE2)) ⟨tw_845, tw_847, tp_41, tw_8, tw_848⟩ dc_X7_maximumNow mM_0 rfl rfl rfl rfl rfl (Nat.le_of_ble_eq_true rfl) (by decide) dX7_headroom_54 ?_
      intro F τ hst
      have hqc := (hq1.tr hqb).tr (fq_x hst.1)
      have hmn := (hq1.tr hqb).mn (mst_mn h2.1.2.1.1 hst)
      rw [w6, w7, w8] at hmn
      have ty : τ (4, 1) 0 = τ0 (4, 1) 0 := congrFun (hst.1 (4, 1) (by decide)) 0
      refine zr_isub X dX7_headroom_57 ?_
      refine zr_iret X hr dX7_headroom_58 ?_
      exact ⟨hqc, Or.inr ⟨hyz.2, by omega, Or.inr ⟨by omega, F, F1, hmn, hF1, rfl⟩⟩⟩
    · refine zr_aloadn X dX7_headroom_31 rfl ?_
      refine zr_get X K (C := RX7) (T := TX7) (N := 20) (k := 4) mM_0 rfl rfl ti_7 (by decide) rfl tw_704 rfl dX7_headroom_32 ?_
      refine zr_iloadn X dX7_headroom_35 rfl ?_
      refine zr_iald X K (n := 80) mM_5 rfl (by decide) (by omega) dX7_headroom_36 ?_
      refine zr_aloadn X dX7_headroom_37 rfl ?_
      refine zr_get X K (C := RX7) (T := TX7) (N := 20) (k := 7) mM_0 rfl rfl ti_7 (by decide) rfl tw_707 rfl dX7_headroom_38 ?_
      refine zr_icmp_ne X 46 dX7_headroom_41 (by decide) ⟨by omega, by omega⟩ ⟨by omega, by omega⟩ (fun t_41 => ?_) (fun f_41 => ?_)
      · refine zr_aloadn X dX7_headroom_46 rfl ?_
        refine zr_iloadn X dX7_headroom_47 rfl ?_
        refine zr_ldc (n := 200000000) X dX7_headroom_48 tw_853 rfl ?_
        refine zr_callVI X K (q := (RX7, TX7, 20)) (st := []) (c_X7_maximumIf l D cs ad hap (σ := σ1) h1.1 h1.c2 hEy1 (a := a) (c := 200000000) hA ⟨by omega, by omega⟩ (cut2_h h1 hEy1 (by omega))) ⟨tw_875, tw_877, tp_47, tw_8, tw_878⟩ dc_X7_maximumIf mM_0 rfl rfl rfl rfl rfl (Nat.le_of_ble_eq_true rfl) (by decide) dX7_headroom_50 ?_
        intro F1 τ0 hmi
        have hqb := fq_x hmi.1
        have hF1 := hq1.mn hmi.2
        rw [e6, e7, e8] at hF1
        have h2 := hqb.ok h1
        have hE2 := hqb.ey hEy1
        have w6 : τ0 (4, 6) = σ (4, 6) := (hqb (4, 6) (by decide)).trans e6
        have w7 : τ0 (4, 7) 0 = σ (4, 7) 0 := (congrFun (hqb (4, 7) (by decide)) 0).trans e7
        have w8 : τ0 (4, 8) 0 = σ (4, 8) 0 := (congrFun (hqb (4, 8) (by decide)) 0).trans e8
        have w1 : τ0 (4, 1) 0 = σ1 (4, 1) 0 := congrFun (hmi.1 (4, 1) (by decide)) 0
        refine zr_aloadn X dX7_headroom_53 rfl ?_
        refine zr_callVI X K (q := (RX7, TX7, 20)) (st := [(jI F1)]) (c_X7_maximumNow l D cs ad hap (σ := τ0) h2.1 h2.c2 hE2 (h2.cut hE2)) ⟨tw_845, tw_847, tp_41, tw_8, tw_848⟩ dc_X7_maximumNow mM_0 rfl rfl rfl rfl rfl (Nat.le_of_ble_eq_true rfl) (by decide) dX7_headroom_54 ?_
        intro F τ hst
        have hqc := (hq1.tr hqb).tr (fq_x hst.1)
        have hmn := (hq1.tr hqb).mn (mst_mn h2.1.2.1.1 hst)
        rw [w6, w7, w8] at hmn
        have ty : τ (4, 1) 0 = τ0 (4, 1) 0 := congrFun (hst.1 (4, 1) (by decide)) 0
        refine zr_isub X dX7_headroom_57 ?_
        refine zr_iret X hr dX7_headroom_58 ?_
        exact ⟨hqc, Or.inr ⟨hyz.2, by omega, Or.inr ⟨by omega, F, F1, hmn, hF1, rfl⟩⟩⟩
      · refine zr_iconst X dX7_headroom_44 ?_
        refine zr_iret X hr dX7_headroom_45 ?_
        exact ⟨hq1, Or.inr ⟨hyz.2, by omega, Or.inl ⟨⟨by omega, by omega⟩, rfl⟩⟩⟩
  · have hlk : (mEn σ ∧ σ1 (4, 1) 0 = 1) ∨ (mEy σ ∧ ¬ (0 ≤ a ∧ a < σ (4, 3) 0) ∧ σ1 (4, 1) 0 = 2) := by
      rcases hy with q | q | q
      · exact Or.inl ⟨q.2, by omega⟩
      · exact Or.inr ⟨q.2.1, q.2.2, by omega⟩
      · omega
    refine zr_iconst X dX7_headroom_16 ?_
    refine zr_iret X hr dX7_headroom_17 ?_
    exact ⟨hq1, Or.inl hlk⟩

set_option maxHeartbeats 4000000 in
set_option maxRecDepth 100000 in
theorem c_X7_isLimiting (l : Launch) (D : va_G) (cs : Nat → ClassId) (ad : Ix → Nat) (hap : Apart idsM ad) {σ : Mem} (h : mOk σ) {a : Int} (ha : rg a) : CI l D cs idsM ad yX7_isLimiting cX7_isLimiting 2 .boolean 4 [(.ref (ad (4, 0))), (jI a)] σ (fun z τ => fq σ τ ∧ (((mEn σ ∧ τ (4, 1) 0 = 1) ∨ (mEy σ ∧ ¬ (0 ≤ a ∧ a < σ (4, 3) 0) ∧ τ (4, 1) 0 = 2)) ∨ ((mEy σ ∧ (0 ≤ a ∧ a < σ (4, 3) 0)) ∧ τ (4, 1) 0 = 0 ∧ liM σ a z))) := by
  refine CI.of RX7 hap idsM_nd (by decide) rfl (Nat.le_of_ble_eq_true rfl) ?_
  intro pg ev s0 mi av bl mt cd X K hr
  refine zr_aloadn X dX7_isLimiting_0 rfl ?_
  refine zr_aloadn X dX7_isLimiting_1 rfl ?_
  refine zr_iloadn X dX7_isLimiting_2 rfl ?_
  refine zr_callVI X K (q := (RX7, TX7, 20)) (st := [(.ref (ad (4, 0)))]) (c_X7_look l D cs ad hap (σ := σ) h (a := a) ha) ⟨tw_871, tw_873, tp_46, tw_8, tw_874⟩ dc_X7_look mM_0 rfl rfl rfl rfl rfl (Nat.le_of_ble_eq_true rfl) (by decide) dX7_isLimiting_3 ?_
  intro y τ_ hp_
  obtain ⟨hτ_, hy⟩ := hp_
  subst τ_
  refine zr_put X K (q := (4, 1)) (C := RX7) (T := TX7) (ty0 := tyX7) (N := 20) (k := 0) mM_0 (fun _ => rfl) (by simp [mset]) rfl rfl ti_7 tyX7_ok nmX7 (by decide) rfl tw_700 rfl rfl rfl (Nat.le_of_ble_eq_true rfl) dX7_isLimiting_6 ?_
  generalize hm_σ1 : mset σ (4, 1) 0 y = σ1
  have hq1 : fq σ σ1 := fq_set hm_σ1
  have t1 := congrArg (fun μ : Mem => μ (4, 1) 0) hm_σ1
  have h1 := hq1.ok h
  have hN := h1.1
  have hn := hN.1
  have hm := hN.2.1
  have hE := h1.2.2.1
  have hEs := h.2.2.1
  unfold mEn mEy at hE
  have e7 : σ1 (4, 7) 0 = σ (4, 7) 0 := congrFun (hq1 (4, 7) (by decide)) 0
  have e8 : σ1 (4, 8) 0 = σ (4, 8) 0 := congrFun (hq1 (4, 8) (by decide)) 0
  have e2 : σ1 (4, 2) 0 = σ (4, 2) 0 := congrFun (hq1 (4, 2) (by decide)) 0
  have e3 : σ1 (4, 3) 0 = σ (4, 3) 0 := congrFun (hq1 (4, 3) (by decide)) 0
  have e6 : σ1 (4, 6) = σ (4, 6) := hq1 (4, 6) (by decide)
  have e4 : σ1 (4, 4) = σ (4, 4) := hq1 (4, 4) (by decide)
  have e5 : σ1 (4, 5) = σ (4, 5) := hq1 (4, 5) (by decide)
  simp only [mset_same] at t1
  have hya : rg (σ1 (4, 1) 0) := by
    rw [← t1]
    rcases hy with q | q | q <;> exact ⟨by omega, by omega⟩
  refine zr_aloadn X dX7_isLimiting_9 rfl ?_
  refine zr_get X K (C := RX7) (T := TX7) (N := 20) (k := 0) mM_0 rfl rfl ti_7 (by decide) rfl tw_700 rfl dX7_isLimiting_10 ?_
  refine zr_if_ne X 40 dX7_isLimiting_13 (by decide) hya (fun t_13 => ?_) (fun f_13 => ?_)
  · have hlk : (mEn σ ∧ σ1 (4, 1) 0 = 1) ∨ (mEy σ ∧ ¬ (0 ≤ a ∧ a < σ (4, 3) 0) ∧ σ1 (4, 1) 0 = 2) := by
      rcases hy with q | q | q
      · exact Or.inl ⟨q.2, by omega⟩
      · exact Or.inr ⟨q.2.1, q.2.2, by omega⟩
      · omega
    refine zr_iconst X dX7_isLimiting_40 ?_
    refine zr_zret X hr dX7_isLimiting_41 (by omega) ?_
    exact ⟨hq1, Or.inl hlk⟩
  · have hyz : y = 0 ∧ mEy σ ∧ (0 ≤ a ∧ a < σ (4, 3) 0) := by
      rcases hy with q | q | q
      · omega
      · omega
      · exact q
    have hEy := hyz.2.1
    have hEy1 := hq1.ey hEy
    have hA : 0 ≤ a ∧ a < σ1 (4, 3) 0 := by omega
    have hNa := hN.2.2 a hA.1 hA.2
    have hca := h1.2.1 a hA.1 hA.2
    refine zr_aloadn X dX7_isLimiting_16 rfl ?_
    refine zr_iloadn X dX7_isLimiting_17 rfl ?_
    refine zr_aloadn X dX7_isLimiting_18 rfl ?_
    refine zr_get X K (C := RX7) (T := TX7) (N := 20) (k := 5) mM_0 rfl rfl ti_7 (by decide) rfl tw_705 rfl dX7_isLimiting_19 ?_
    refine zr_iloadn X dX7_isLimiting_22 rfl ?_
    refine zr_iald X K (n := 80) mM_6 rfl (by decide) (by omega) dX7_isLimiting_23 ?_
    refine zr_iconst X dX7_isLimiting_24 ?_
    refine zr_iadd X dX7_isLimiting_25 ?_
    refine zr_callVI X K (q := (RX7, TX7, 20)) (st := []) (c_X7_maximumIf l D cs ad hap (σ := σ1) h1.1 h1.c2 hEy1 (a := a) (c := σ1 (4, 6) a + 1) hA ⟨by omega, by omega⟩ (h1.cutu hEy1 (by omega))) ⟨tw_875, tw_877, tp_47, tw_8, tw_878⟩ dc_X7_maximumIf mM_0 rfl rfl rfl rfl rfl (Nat.le_of_ble_eq_true rfl) (by decide) dX7_isLimiting_26 ?_
    intro F1 τ0 hmi
    have hqb := fq_x hmi.1
    have hF1 := hq1.mn hmi.2
    rw [e6, e7, e8] at hF1
    have h2 := hqb.ok h1
    have hE2 := hqb.ey hEy1
    have w6 : τ0 (4, 6) = σ (4, 6) := (hqb (4, 6) (by decide)).trans e6
    have w7 : τ0 (4, 7) 0 = σ (4, 7) 0 := (congrFun (hqb (4, 7) (by decide)) 0).trans e7
    have w8 : τ0 (4, 8) 0 = σ (4, 8) 0 := (congrFun (hqb (4, 8) (by decide)) 0).trans e8
    have w1 : τ0 (4, 1) 0 = σ1 (4, 1) 0 := congrFun (hmi.1 (4, 1) (by decide)) 0
    refine zr_aloadn X dX7_isLimiting_29 rfl ?_
    refine zr_callVI X K (q := (RX7, TX7, 20)) (st := [(jI F1)]) (c_X7_maximumNow l D cs ad hap (σ := τ0) h2.1 h2.c2 hE2 (h2.cut hE2)) ⟨tw_845, tw_847, tp_41, tw_8, tw_848⟩ dc_X7_maximumNow mM_0 rfl rfl rfl rfl rfl (Nat.le_of_ble_eq_true rfl) (by decide) dX7_isLimiting_30 ?_
    intro F τ hst
    have hqc := (hq1.tr hqb).tr (fq_x hst.1)
    have hmn := (hq1.tr hqb).mn (mst_mn h2.1.2.1.1 hst)
    rw [w6, w7, w8] at hmn
    have ty : τ (4, 1) 0 = τ0 (4, 1) 0 := congrFun (hst.1 (4, 1) (by decide)) 0
    have r1 := mn_rg1 h hEy hmn
    have r2 := mn_rg2 h (by have := h.2.1 a hyz.2.2.1 hyz.2.2.2; omega) hF1 (h.cutu hEy (by have := h.2.1 a hyz.2.2.1 hyz.2.2.2; omega))
    refine zr_icmp_le X 40 dX7_isLimiting_33 (by decide) ⟨by omega, by omega⟩ ⟨by omega, by omega⟩ (fun t_33 => ?_) (fun f_33 => ?_)
    · refine zr_iconst X dX7_isLimiting_40 ?_
      refine zr_zret X hr dX7_isLimiting_41 (by omega) ?_
      exact ⟨hqc, Or.inr ⟨hyz.2, by omega, F, F1, hmn, hF1, Or.inl rfl, fun q => absurd q (by decide), fun q => absurd q (by omega)⟩⟩
    · refine zr_iconst X dX7_isLimiting_36 ?_
      refine zr_goto X 41 dX7_isLimiting_37 (by decide) ?_
      refine zr_zret X hr dX7_isLimiting_41 (by omega) ?_
      exact ⟨hqc, Or.inr ⟨hyz.2, by omega, F, F1, hmn, hF1, Or.inr rfl, fun _ => by omega, fun _ => rfl⟩⟩

set_option maxHeartbeats 4000000 in
set_option maxRecDepth 100000 in
theorem c_X7_greatestFlow (l : Launch) (D : va_G) (cs : Nat → ClassId) (ad : Ix → Nat) (hap : Apart idsM ad) {σ : Mem} (h : mOk σ) {a : Int} (ha : rg a) : CI l D cs idsM ad yX7_greatestFlow cX7_greatestFlow 5 .int 4 [(.ref (ad (4, 0))), (jI a)] σ (fun z τ => fq σ τ ∧ (((mEn σ ∧ τ (4, 1) 0 = 1) ∨ (mEy σ ∧ ¬ (0 ≤ a ∧ a < σ (4, 3) 0) ∧ τ (4, 1) 0 = 2)) ∨ ((mEy σ ∧ (0 ≤ a ∧ a < σ (4, 3) 0)) ∧ τ (4, 1) 0 = 0 ∧ gfM σ a z))) := by
  refine CI.of RX7 hap idsM_nd (by decide) rfl (Nat.le_of_ble_eq_true rfl) ?_
  intro pg ev s0 mi av bl mt cd X K hr
  refine zr_aloadn X dX7_greatestFlow_0 rfl ?_
  refine zr_aloadn X dX7_greatestFlow_1 rfl ?_
  refine zr_iloadn X dX7_greatestFlow_2 rfl ?_
  refine zr_callVI X K (q := (RX7, TX7, 20)) (st := [(.ref (ad (4, 0)))]) (c_X7_look l D cs ad hap (σ := σ) h (a := a) ha) ⟨tw_871, tw_873, tp_46, tw_8, tw_874⟩ dc_X7_look mM_0 rfl rfl rfl rfl rfl (Nat.le_of_ble_eq_true rfl) (by decide) dX7_greatestFlow_3 ?_
  intro y τ_ hp_
  obtain ⟨hτ_, hy⟩ := hp_
  subst τ_
  refine zr_put X K (q := (4, 1)) (C := RX7) (T := TX7) (ty0 := tyX7) (N := 20) (k := 0) mM_0 (fun _ => rfl) (by simp [mset]) rfl rfl ti_7 tyX7_ok nmX7 (by decide) rfl tw_700 rfl rfl rfl (Nat.le_of_ble_eq_true rfl) dX7_greatestFlow_6 ?_
  generalize hm_σ1 : mset σ (4, 1) 0 y = σ1
  have hq1 : fq σ σ1 := fq_set hm_σ1
  have t1 := congrArg (fun μ : Mem => μ (4, 1) 0) hm_σ1
  have h1 := hq1.ok h
  have hN := h1.1
  have hn := hN.1
  have hm := hN.2.1
  have hE := h1.2.2.1
  have hEs := h.2.2.1
  unfold mEn mEy at hE
  have e7 : σ1 (4, 7) 0 = σ (4, 7) 0 := congrFun (hq1 (4, 7) (by decide)) 0
  have e8 : σ1 (4, 8) 0 = σ (4, 8) 0 := congrFun (hq1 (4, 8) (by decide)) 0
  have e2 : σ1 (4, 2) 0 = σ (4, 2) 0 := congrFun (hq1 (4, 2) (by decide)) 0
  have e3 : σ1 (4, 3) 0 = σ (4, 3) 0 := congrFun (hq1 (4, 3) (by decide)) 0
  have e6 : σ1 (4, 6) = σ (4, 6) := hq1 (4, 6) (by decide)
  have e4 : σ1 (4, 4) = σ (4, 4) := hq1 (4, 4) (by decide)
  have e5 : σ1 (4, 5) = σ (4, 5) := hq1 (4, 5) (by decide)
  simp only [mset_same] at t1
  have hya : rg (σ1 (4, 1) 0) := by
    rw [← t1]
    rcases hy with q | q | q <;> exact ⟨by omega, by omega⟩
  refine zr_aloadn X dX7_greatestFlow_9 rfl ?_
  refine zr_get X K (C := RX7) (T := TX7) (N := 20) (k := 0) mM_0 rfl rfl ti_7 (by decide) rfl tw_700 rfl dX7_greatestFlow_10 ?_
  refine zr_if_eq X 18 dX7_greatestFlow_13 (by decide) hya (fun t_13 => ?_) (fun f_13 => ?_)
  · have hyz : y = 0 ∧ mEy σ ∧ (0 ≤ a ∧ a < σ (4, 3) 0) := by
      rcases hy with q | q | q
      · omega
      · omega
      · exact q
    have hEy := hyz.2.1
    have hEy1 := hq1.ey hEy
    have hA : 0 ≤ a ∧ a < σ1 (4, 3) 0 := by omega
    have hNa := hN.2.2 a hA.1 hA.2
    refine zr_aloadn X dX7_greatestFlow_18 rfl ?_
    refine zr_callVI X K (q := (RX7, TX7, 20)) (st := []) (c_X7_maximumNow l D cs ad hap (σ := σ1) hN h1.c2 hEy1 (h1.cut hEy1)) ⟨tw_845, tw_847, tp_41, tw_8, tw_848⟩ dc_X7_maximumNow mM_0 rfl rfl rfl rfl rfl (Nat.le_of_ble_eq_true rfl) (by decide) dX7_greatestFlow_19 ?_
    intro F τ1 hst
    have hqx := hq1.tr (fq_x hst.1)
    have hmn := hq1.mn (mst_mn hm.1 hst)
    rw [e6, e7, e8] at hmn
    have tx : τ1 (4, 1) 0 = σ1 (4, 1) 0 := congrFun (hst.1 (4, 1) (by decide)) 0
    refine zr_istoren X dX7_greatestFlow_22 (by decide) rfl ?_
    refine zr_iloadn X dX7_greatestFlow_23 rfl ?_
    have r1 := mn_rg1 h hEy hmn
    refine zr_if_ge X 31 dX7_greatestFlow_24 (by decide) ⟨by omega, by omega⟩ (fun t_24 => ?_) (fun f_24 => ?_)
    · refine zr_aloadn X dX7_greatestFlow_31 rfl ?_
      refine zr_get X K (C := RX7) (T := TX7) (N := 20) (k := 16) mM_0 rfl rfl ti_7 (by decide) rfl tw_716 rfl dX7_greatestFlow_32 ?_
      refine zr_iloadn X dX7_greatestFlow_35 rfl ?_
      refine zr_iald X K (n := 80) mM_17 rfl (by decide) (by omega) dX7_greatestFlow_36 ?_
      refine zr_istoren X dX7_greatestFlow_37 (by decide) rfl ?_
      refine zr_aloadn X dX7_greatestFlow_38 rfl ?_
      refine zr_get X K (C := RX7) (T := TX7) (N := 20) (k := 15) mM_0 rfl rfl ti_7 (by decide) rfl tw_715 rfl dX7_greatestFlow_39 ?_
      refine zr_iloadn X dX7_greatestFlow_42 rfl ?_
      refine zr_iald X K (n := 80) mM_16 rfl (by decide) (by omega) dX7_greatestFlow_43 ?_
      refine zr_istore X dX7_greatestFlow_44 (by decide) rfl ?_
      refine zr_aloadn X dX7_greatestFlow_46 rfl ?_
      refine zr_get X K (C := RX7) (T := TX7) (N := 20) (k := 15) mM_0 rfl rfl ti_7 (by decide) rfl tw_715 rfl dX7_greatestFlow_47 ?_
      refine zr_iloadn X dX7_greatestFlow_50 rfl ?_
      refine zr_iconst X dX7_greatestFlow_51 ?_
      refine zr_iast X K (n := 80) mM_16 (fun _ => rfl) rfl (by decide) (by omega) dX7_greatestFlow_52 ?_
      generalize hm_σ2 : mset τ1 (4, 16) a 0 = σ2
      refine zr_aloadn X dX7_greatestFlow_53 rfl ?_
      refine zr_get X K (C := RX7) (T := TX7) (N := 20) (k := 16) mM_0 rfl rfl ti_7 (by decide) rfl tw_716 rfl dX7_greatestFlow_54 ?_
      refine zr_iloadn X dX7_greatestFlow_57 rfl ?_
      refine zr_iconst X dX7_greatestFlow_58 ?_
      refine zr_iast X K (n := 80) mM_17 (fun _ => rfl) rfl (by decide) (by omega) dX7_greatestFlow_59 ?_
      generalize hm_σ3 : mset σ2 (4, 17) a 0 = σ3
      have hres : mRes σ3 := fun j j0 j1 => by
        rw [← hm_σ3, mset_id (by decide), ← hm_σ2, mset_id (by decide), hst.1 (4, 3) (by decide)] at j1
        have q1 := hst.2.1 j j0 j1
        have q2 := h1.2.1 j j0 j1
        rw [← hm_σ3, mset_id (by decide), mset_at, ← hm_σ2, mset_at, mset_id (by decide)]
        by_cases g : j = a
        · rw [if_pos g, if_pos g]; omega
        · rw [if_neg g, if_neg g]; omega
      have gq : ∀ p : Ix, p ≠ (4, 16) → p ≠ (4, 17) → σ3 p = τ1 p := fun p p1 p2 => by rw [← hm_σ3, mset_id p2, ← hm_σ2, mset_id p1]
      have hN3 : mNet σ3 := by
        have := hst.1.net hN
        unfold mNet at this ⊢
        rw [gq (4, 2) (by decide) (by decide), gq (4, 3) (by decide) (by decide), gq (4, 4) (by decide) (by decide), gq (4, 5) (by decide) (by decide)]
        exact this
      have g4 : σ3 (4, 4) a = σ1 (4, 4) a := by rw [gq _ (by decide) (by decide), hst.1 (4, 4) (by decide)]
      have g5 : σ3 (4, 5) a = σ1 (4, 5) a := by rw [gq _ (by decide) (by decide), hst.1 (4, 5) (by decide)]
      have g2 : σ3 (4, 2) 0 = σ1 (4, 2) 0 := by rw [gq _ (by decide) (by decide), hst.1 (4, 2) (by decide)]
      have qa := hst.2.1 a hA.1 hA.2
      have ca := h1.2.1 a hA.1 hA.2
      refine zr_iloadn X dX7_greatestFlow_60 rfl ?_
      refine zr_aloadn X dX7_greatestFlow_61 rfl ?_
      refine zr_aloadn X dX7_greatestFlow_62 rfl ?_
      refine zr_get X K (C := RX7) (T := TX7) (N := 20) (k := 4) mM_0 rfl rfl ti_7 (by decide) rfl tw_704 rfl dX7_greatestFlow_63 ?_
      refine zr_iloadn X dX7_greatestFlow_66 rfl ?_
      refine zr_iald X K (n := 80) mM_5 rfl (by decide) (by omega) dX7_greatestFlow_67 ?_
      refine zr_aloadn X dX7_greatestFlow_68 rfl ?_
      refine zr_get X K (C := RX7) (T := TX7) (N := 20) (k := 3) mM_0 rfl rfl ti_7 (by decide) rfl tw_703 rfl dX7_greatestFlow_69 ?_
      refine zr_iloadn X dX7_greatestFlow_72 rfl ?_
      refine zr_iald X K (n := 80) mM_4 rfl (by decide) (by omega) dX7_greatestFlow_73 ?_
      refine zr_iload X dX7_greatestFlow_74 rfl ?_
      refine zr_callVI X K (q := (RX7, TX7, 20)) (st := [(jI (τ1 (4, 17) a))]) (c_X7_fill l D cs ad hap (σ := σ3) hN3 hres (u := σ3 (4, 5) a) (t := σ3 (4, 4) a) (L := τ1 (4, 16) a) (by omega) (by omega) (by omega) ⟨by omega, by omega⟩) ⟨tw_854, tw_856, tp_43, tw_8, tw_857⟩ dc_X7_fill mM_0 rfl rfl rfl rfl rfl (Nat.le_of_ble_eq_true rfl) (by decide) dX7_greatestFlow_76 ?_
      intro r τ hfi
      rw [g4, g5] at hfi
      have hgf := gfm_of hm.1 hA hst hm_σ2 hm_σ3 hfi
      have tz : τ (4, 1) 0 = σ1 (4, 1) 0 := congrFun (hgf.1 (4, 1) (by decide)) 0
      refine zr_iadd X dX7_greatestFlow_79 ?_
      refine zr_iret X hr dX7_greatestFlow_80 ?_
      have hg2 := hgf.2
      unfold gfM mnM at hg2
      rw [e4, e5, e6, e7, e8, hq1 (4, 3) (by decide)] at hg2
      exact ⟨hq1.tr (fq_x hgf.1), Or.inr ⟨hyz.2, by omega, hg2⟩⟩
    · exfalso
      omega
  · have hlk : (mEn σ ∧ σ1 (4, 1) 0 = 1) ∨ (mEy σ ∧ ¬ (0 ≤ a ∧ a < σ (4, 3) 0) ∧ σ1 (4, 1) 0 = 2) := by
      rcases hy with q | q | q
      · exact Or.inl ⟨q.2, by omega⟩
      · exact Or.inr ⟨q.2.1, q.2.2, by omega⟩
      · omega
    refine zr_iconst X dX7_greatestFlow_16 ?_
    refine zr_iret X hr dX7_greatestFlow_17 ?_
    exact ⟨hq1, Or.inl hlk⟩

set_option maxHeartbeats 4000000 in
set_option maxRecDepth 100000 in
theorem c_X7_maximumWithout (l : Launch) (D : va_G) (cs : Nat → ClassId) (ad : Ix → Nat) (hap : Apart idsM ad) {σ : Mem} (h : mOk σ) {v : Int} (hv : rg v) : CI l D cs idsM ad yX7_maximumWithout cX7_maximumWithout 3 .int 3 [(.ref (ad (4, 0))), (jI v)] σ (fun z τ => fq σ τ ∧ ((mEn σ ∧ τ (4, 1) 0 = 1) ∨ (mEy σ ∧ ((¬ (0 ≤ v ∧ v < σ (4, 2) 0) ∧ τ (4, 1) 0 = 2) ∨ ((0 ≤ v ∧ v < σ (4, 2) 0) ∧ τ (4, 1) 0 = 0 ∧ mnM σ (woM σ v (σ (4, 3) 0)) (σ (4, 7) 0) (σ (4, 8) 0) z))))) := by
  refine CI.of RX7 hap idsM_nd (by decide) rfl (Nat.le_of_ble_eq_true rfl) ?_
  intro pg ev s0 mi av bl mt cd X K hr
  refine zr_aloadn X dX7_maximumWithout_0 rfl ?_
  refine zr_iconst X dX7_maximumWithout_1 ?_
  refine zr_put X K (q := (4, 1)) (C := RX7) (T := TX7) (ty0 := tyX7) (N := 20) (k := 0) mM_0 (fun _ => rfl) (by simp [mset]) rfl rfl ti_7 tyX7_ok nmX7 (by decide) rfl tw_700 rfl rfl rfl (Nat.le_of_ble_eq_true rfl) dX7_maximumWithout_2 ?_
  generalize hm_σ1 : mset σ (4, 1) 0 0 = σ1
  have hq1 : fq σ σ1 := fq_set hm_σ1
  have t1 := congrArg (fun μ : Mem => μ (4, 1) 0) hm_σ1
  have h1 := hq1.ok h
  have hN := h1.1
  have hn := hN.1
  have hm := hN.2.1
  have hE := h1.2.2.1
  have hEs := h.2.2.1
  unfold mEn mEy at hE
  have e7 : σ1 (4, 7) 0 = σ (4, 7) 0 := congrFun (hq1 (4, 7) (by decide)) 0
  have e8 : σ1 (4, 8) 0 = σ (4, 8) 0 := congrFun (hq1 (4, 8) (by decide)) 0
  have e2 : σ1 (4, 2) 0 = σ (4, 2) 0 := congrFun (hq1 (4, 2) (by decide)) 0
  have e3 : σ1 (4, 3) 0 = σ (4, 3) 0 := congrFun (hq1 (4, 3) (by decide)) 0
  have e6 : σ1 (4, 6) = σ (4, 6) := hq1 (4, 6) (by decide)
  have e4 : σ1 (4, 4) = σ (4, 4) := hq1 (4, 4) (by decide)
  have e5 : σ1 (4, 5) = σ (4, 5) := hq1 (4, 5) (by decide)
  simp only [mset_same] at t1
  refine zr_aloadn X dX7_maximumWithout_5 rfl ?_
  refine zr_get X K (C := RX7) (T := TX7) (N := 20) (k := 6) mM_0 rfl rfl ti_7 (by decide) rfl tw_706 rfl dX7_maximumWithout_6 ?_
  refine zr_iconst X dX7_maximumWithout_9 ?_
  refine zr_icmp_ne X 19 dX7_maximumWithout_10 (by decide) ⟨by omega, by omega⟩ ⟨by omega, by omega⟩ (fun t_10 => ?_) (fun f_10 => ?_)
  · have hEy : mEy σ := hEs.resolve_left (fun q => by unfold mEn at q; omega)
    have hEy1 := hq1.ey hEy
    refine zr_aloadn X dX7_maximumWithout_19 rfl ?_
    refine zr_iloadn X dX7_maximumWithout_20 rfl ?_
    refine zr_callVI X K (q := (RX7, TX7, 20)) (st := []) (c_X7_isNode l D cs ad hap (σ := σ1) hN (v := v) hv) ⟨tw_777, tw_779, tp_39, tw_8, tw_780⟩ dc_X7_isNode mM_0 rfl rfl rfl rfl rfl (Nat.le_of_ble_eq_true rfl) (by decide) dX7_maximumWithout_21 ?_
    intro y τ_ hp_
    obtain ⟨hτ_, hy01, hy⟩ := hp_
    subst τ_
    refine zr_if_ne X 33 dX7_maximumWithout_24 (by decide) (by rcases hy01 with q | q <;> exact ⟨by omega, by omega⟩) (fun t_24 => ?_) (fun f_24 => ?_)
    · refine zr_aloadn X dX7_maximumWithout_33 rfl ?_
      refine zr_callVV X K (q := (RX7, TX7, 20)) (st := []) (c_X7_empty l D cs ad hap (σ := σ1) hN) ⟨tw_849, tw_851, tp_42, tw_8, tw_852⟩ dc_X7_empty mM_0 rfl rfl rfl rfl rfl (Nat.le_of_ble_eq_true rfl) (by decide) dX7_maximumWithout_34 ?_
      intro υ hem
      have hEy : mEy σ := hEs.resolve_left (fun q => by unfold mEn at q; omega)
      have hEy1 := hq1.ey hEy
      have hEy1 := hq1.ey hEy
      refine zr_iconst X dX7_maximumWithout_37 ?_
      refine zr_istoren X dX7_maximumWithout_38 (by decide) rfl ?_
      have loop_39 : ∀ (n_39 : Nat) (i : Int) (ω : Mem), ((0 ≤ i ∧ i ≤ σ1 (4, 3) 0) ∧ woI σ1 ω v i) → (σ1 (4, 3) 0 - i).toNat < n_39 → Wx pg l ev (rmm 3 0 0) s0 mi av bl mt cd D cs idsM ad (Rg idsM ad) s0.heap 3 (MQ bl (qI D cs idsM ad ((fun z τ => fq σ τ ∧ ((mEn σ ∧ τ (4, 1) 0 = 1) ∨ (mEy σ ∧ ((¬ (0 ≤ v ∧ v < σ (4, 2) 0) ∧ τ (4, 1) 0 = 2) ∨ ((0 ≤ v ∧ v < σ (4, 2) 0) ∧ τ (4, 1) 0 = 0 ∧ mnM σ (woM σ v (σ (4, 3) 0)) (σ (4, 7) 0) (σ (4, 8) 0) z))))))) av s0 0 0 (Rg idsM ad)) 0 0 ω 39 [some (.ref (ad (4, 0))), some (jI v), some (jI i)] [] := by
        intro n_39
        induction n_39 with
        | zero => exact fun i ω hinv hn => absurd hn (Nat.not_lt_zero _)
        | succ n_39 ih_39 =>
          intro i ω hI_39 hn_39
          have hi0 := hI_39.1
          have hW := hI_39.2
          have k3 : ω (4, 3) 0 = σ1 (4, 3) 0 := congrFun (hW.1 (4, 3) (by decide)) 0
          have k4 : ω (4, 4) i = σ1 (4, 4) i := congrFun (hW.1 (4, 4) (by decide)) i
          have k5 : ω (4, 5) i = σ1 (4, 5) i := congrFun (hW.1 (4, 5) (by decide)) i
          refine zr_iloadn X dX7_maximumWithout_39 rfl ?_
          refine zr_aloadn X dX7_maximumWithout_40 rfl ?_
          refine zr_get X K (C := RX7) (T := TX7) (N := 20) (k := 2) mM_0 rfl rfl ti_7 (by decide) rfl tw_702 rfl dX7_maximumWithout_41 ?_
          refine zr_icmp_ge X 80 dX7_maximumWithout_44 (by decide) ⟨by omega, by omega⟩ ⟨by omega, by omega⟩ (fun t_44 => ?_) (fun f_44 => ?_)
          · have hi : i = σ1 (4, 3) 0 := by omega
            rw [hi] at hW
            have hNw := hW.1.net hN
            have hRw := mres_of hW.1 (fun a a0 a1 => by have := wom_rg h1 (v := v) (i := σ1 (4, 3) 0) a a0 a1; omega) hW.2
            have k2 : ω (4, 2) 0 = σ1 (4, 2) 0 := congrFun (hW.1 (4, 2) (by decide)) 0
            have k7 : ω (4, 7) 0 = σ1 (4, 7) 0 := congrFun (hW.1 (4, 7) (by decide)) 0
            have k8 : ω (4, 8) 0 = σ1 (4, 8) 0 := congrFun (hW.1 (4, 8) (by decide)) 0
            have hEz := hEy1
            unfold mEy at hEz
            refine zr_aloadn X dX7_maximumWithout_80 rfl ?_
            refine zr_aloadn X dX7_maximumWithout_81 rfl ?_
            refine zr_get X K (C := RX7) (T := TX7) (N := 20) (k := 6) mM_0 rfl rfl ti_7 (by decide) rfl tw_706 rfl dX7_maximumWithout_82 ?_
            refine zr_aloadn X dX7_maximumWithout_85 rfl ?_
            refine zr_get X K (C := RX7) (T := TX7) (N := 20) (k := 7) mM_0 rfl rfl ti_7 (by decide) rfl tw_707 rfl dX7_maximumWithout_86 ?_
            refine zr_ldc (n := 200000000) X dX7_maximumWithout_89 tw_853 rfl ?_
            refine zr_callVI X K (q := (RX7, TX7, 20)) (st := []) (c_X7_fill l D cs ad hap (σ := ω) hNw hRw (u := ω (4, 7) 0) (t := ω (4, 8) 0) (L := 200000000) (by omega) (by omega) (by omega) ⟨by omega, by omega⟩) ⟨tw_854, tw_856, tp_43, tw_8, tw_857⟩ dc_X7_fill mM_0 rfl rfl rfl rfl rfl (Nat.le_of_ble_eq_true rfl) (by decide) dX7_maximumWithout_91 ?_
            intro z τ2 hfi
            rw [k7, k8] at hfi
            have hst := mst_of hm.1 hW.1 hW.2 (cut2_s hm hEy1.2.2 (fun a a0 a1 => by have := wom_rg h1 (v := v) (i := σ1 (4, 3) 0) a a0 a1; omega)) hfi
            have hmn := hq1.mn (mst_mn hm.1 hst)
            have tx : τ2 (4, 1) 0 = σ1 (4, 1) 0 := congrFun (hst.1 (4, 1) (by decide)) 0
            have hwc : woM σ1 v (σ1 (4, 3) 0) = woM σ v (σ (4, 3) 0) := by
              unfold woM
              rw [e4, e5, e6, e3]
            rw [hwc, e7, e8] at hmn
            refine zr_iret X hr dX7_maximumWithout_94 ?_
            exact ⟨hq1.tr (fq_x hst.1), Or.inr ⟨hEy, Or.inr ⟨by omega, by omega, hmn⟩⟩⟩
          · have hNi := hN.2.2 i hi0.1 (by omega)
            refine zr_aloadn X dX7_maximumWithout_47 rfl ?_
            refine zr_get X K (C := RX7) (T := TX7) (N := 20) (k := 3) mM_0 rfl rfl ti_7 (by decide) rfl tw_703 rfl dX7_maximumWithout_48 ?_
            refine zr_iloadn X dX7_maximumWithout_51 rfl ?_
            refine zr_iald X K (n := 80) mM_4 rfl (by decide) (by omega) dX7_maximumWithout_52 ?_
            refine zr_iloadn X dX7_maximumWithout_53 rfl ?_
            refine zr_icmp_eq X 67 dX7_maximumWithout_54 (by decide) ⟨by omega, by omega⟩ ⟨by omega, by omega⟩ (fun t_54 => ?_) (fun f_54 => ?_)
            · refine zr_aloadn X dX7_maximumWithout_67 rfl ?_
              refine zr_get X K (C := RX7) (T := TX7) (N := 20) (k := 15) mM_0 rfl rfl ti_7 (by decide) rfl tw_715 rfl dX7_maximumWithout_68 ?_
              refine zr_iloadn X dX7_maximumWithout_71 rfl ?_
              refine zr_iconst X dX7_maximumWithout_72 ?_
              refine zr_iast X K (n := 80) mM_16 (fun _ => rfl) rfl (by decide) (by omega) dX7_maximumWithout_73 ?_
              generalize hm_σ2 : mset ω (4, 16) i 0 = σ2
              refine zr_iinc X dX7_maximumWithout_74 rfl (by decide) rfl ?_
              refine zr_goto X 39 dX7_maximumWithout_77 (by decide) ?_
              refine Wx.weak (lo' := [some (.ref (ad (4, 0))), some (jI v), some (jI (i + 1))]) ⟨rfl, rfl, rfl, trivial⟩ ?_
              exact ih_39 _ _ ⟨⟨by omega, by omega⟩, wom_y hW (by omega) hm_σ2⟩ (by omega)
            · refine zr_aloadn X dX7_maximumWithout_57 rfl ?_
              refine zr_get X K (C := RX7) (T := TX7) (N := 20) (k := 4) mM_0 rfl rfl ti_7 (by decide) rfl tw_704 rfl dX7_maximumWithout_58 ?_
              refine zr_iloadn X dX7_maximumWithout_61 rfl ?_
              refine zr_iald X K (n := 80) mM_5 rfl (by decide) (by omega) dX7_maximumWithout_62 ?_
              refine zr_iloadn X dX7_maximumWithout_63 rfl ?_
              refine zr_icmp_ne X 74 dX7_maximumWithout_64 (by decide) ⟨by omega, by omega⟩ ⟨by omega, by omega⟩ (fun t_64 => ?_) (fun f_64 => ?_)
              · refine zr_iinc X dX7_maximumWithout_74 rfl (by decide) rfl ?_
                refine zr_goto X 39 dX7_maximumWithout_77 (by decide) ?_
                refine Wx.weak (lo' := [some (.ref (ad (4, 0))), some (jI v), some (jI (i + 1))]) ⟨rfl, rfl, rfl, trivial⟩ ?_
                exact ih_39 _ _ ⟨⟨by omega, by omega⟩, wom_n hW (by omega)⟩ (by omega)
              · refine zr_aloadn X dX7_maximumWithout_67 rfl ?_
                refine zr_get X K (C := RX7) (T := TX7) (N := 20) (k := 15) mM_0 rfl rfl ti_7 (by decide) rfl tw_715 rfl dX7_maximumWithout_68 ?_
                refine zr_iloadn X dX7_maximumWithout_71 rfl ?_
                refine zr_iconst X dX7_maximumWithout_72 ?_
                refine zr_iast X K (n := 80) mM_16 (fun _ => rfl) rfl (by decide) (by omega) dX7_maximumWithout_73 ?_
                generalize hm_σ3 : mset ω (4, 16) i 0 = σ3
                refine zr_iinc X dX7_maximumWithout_74 rfl (by decide) rfl ?_
                refine zr_goto X 39 dX7_maximumWithout_77 (by decide) ?_
                refine Wx.weak (lo' := [some (.ref (ad (4, 0))), some (jI v), some (jI (i + 1))]) ⟨rfl, rfl, rfl, trivial⟩ ?_
                exact ih_39 _ _ ⟨⟨by omega, by omega⟩, wom_y hW (by omega) hm_σ3⟩ (by omega)
      refine Wx.weak (lo' := [some (.ref (ad (4, 0))), some (jI v), some (jI 0)]) ⟨rfl, rfl, rfl, trivial⟩ ?_
      exact loop_39 _ _ _ ⟨⟨by omega, by omega⟩, wom_0 hem⟩ (Nat.lt_succ_self _)
    · refine zr_aloadn X dX7_maximumWithout_27 rfl ?_
      refine zr_iconst X dX7_maximumWithout_28 ?_
      refine zr_callVI X K (q := (RX7, TX7, 20)) (st := []) (c_X7_fail l D cs ad hap (σ := σ1) (k := 2)) ⟨tw_769, tw_771, tp_38, tw_8, tw_772⟩ dc_X7_fail mM_0 rfl rfl rfl rfl rfl (Nat.le_of_ble_eq_true rfl) (by decide) dX7_maximumWithout_29 ?_
      intro z τ hp
      obtain ⟨hτ, hz⟩ := hp
      have htt : τ (4, 1) 0 = 2 := by rw [hτ, mset_same]
      have hqf := hq1.tr (fq_set hτ.symm)
      refine zr_iret X hr dX7_maximumWithout_32 ?_
      first | exact ⟨hqf, Or.inl ⟨hEn, htt⟩⟩ | exact ⟨hqf, Or.inr ⟨hEy, Or.inl ⟨by omega, htt⟩⟩⟩
  · have hEn : mEn σ := hEs.resolve_right (fun q => by unfold mEy at q; omega)
    refine zr_aloadn X dX7_maximumWithout_13 rfl ?_
    refine zr_iconst X dX7_maximumWithout_14 ?_
    refine zr_callVI X K (q := (RX7, TX7, 20)) (st := []) (c_X7_fail l D cs ad hap (σ := σ1) (k := 1)) ⟨tw_769, tw_771, tp_38, tw_8, tw_772⟩ dc_X7_fail mM_0 rfl rfl rfl rfl rfl (Nat.le_of_ble_eq_true rfl) (by decide) dX7_maximumWithout_15 ?_
    intro z τ hp
    obtain ⟨hτ, hz⟩ := hp
    have htt : τ (4, 1) 0 = 1 := by rw [hτ, mset_same]
    have hqf := hq1.tr (fq_set hτ.symm)
    refine zr_iret X hr dX7_maximumWithout_18 ?_
    first | exact ⟨hqf, Or.inl ⟨hEn, htt⟩⟩ | exact ⟨hqf, Or.inr ⟨hEy, Or.inl ⟨by omega, htt⟩⟩⟩

set_option maxHeartbeats 4000000 in
set_option maxRecDepth 100000 in
theorem c_X7_maximumBetween (l : Launch) (D : va_G) (cs : Nat → ClassId) (ad : Ix → Nat) (hap : Apart idsM ad) {σ : Mem} (h : mOk σ) {s t : Int} (hs : rg s) (ht : rg t) : CI l D cs idsM ad yX7_maximumBetween cX7_maximumBetween 3 .int 3 [(.ref (ad (4, 0))), (jI s), (jI t)] σ (fun z τ => fq σ τ ∧ ((¬ ((0 ≤ s ∧ s < σ (4, 2) 0) ∧ (0 ≤ t ∧ t < σ (4, 2) 0)) ∧ τ (4, 1) 0 = 1) ∨ (((0 ≤ s ∧ s < σ (4, 2) 0) ∧ (0 ≤ t ∧ t < σ (4, 2) 0)) ∧ ((s = t ∧ τ (4, 1) 0 = 2) ∨ (s ≠ t ∧ τ (4, 1) 0 = 0 ∧ mnM σ (σ (4, 6)) s t z))))) := by
  refine CI.of RX7 hap idsM_nd (by decide) rfl (Nat.le_of_ble_eq_true rfl) ?_
  intro pg ev s0 mi av bl mt cd X K hr
  refine zr_aloadn X dX7_maximumBetween_0 rfl ?_
  refine zr_iconst X dX7_maximumBetween_1 ?_
  refine zr_put X K (q := (4, 1)) (C := RX7) (T := TX7) (ty0 := tyX7) (N := 20) (k := 0) mM_0 (fun _ => rfl) (by simp [mset]) rfl rfl ti_7 tyX7_ok nmX7 (by decide) rfl tw_700 rfl rfl rfl (Nat.le_of_ble_eq_true rfl) dX7_maximumBetween_2 ?_
  generalize hm_σ1 : mset σ (4, 1) 0 0 = σ1
  have hq1 : fq σ σ1 := fq_set hm_σ1
  have t1 := congrArg (fun μ : Mem => μ (4, 1) 0) hm_σ1
  have h1 := hq1.ok h
  have hN := h1.1
  have hn := hN.1
  have hm := hN.2.1
  have hE := h1.2.2.1
  have hEs := h.2.2.1
  unfold mEn mEy at hE
  have e7 : σ1 (4, 7) 0 = σ (4, 7) 0 := congrFun (hq1 (4, 7) (by decide)) 0
  have e8 : σ1 (4, 8) 0 = σ (4, 8) 0 := congrFun (hq1 (4, 8) (by decide)) 0
  have e2 : σ1 (4, 2) 0 = σ (4, 2) 0 := congrFun (hq1 (4, 2) (by decide)) 0
  have e3 : σ1 (4, 3) 0 = σ (4, 3) 0 := congrFun (hq1 (4, 3) (by decide)) 0
  have e6 : σ1 (4, 6) = σ (4, 6) := hq1 (4, 6) (by decide)
  have e4 : σ1 (4, 4) = σ (4, 4) := hq1 (4, 4) (by decide)
  have e5 : σ1 (4, 5) = σ (4, 5) := hq1 (4, 5) (by decide)
  simp only [mset_same] at t1
  have hs1 := hs.1
  have hs2 := hs.2
  have ht1 := ht.1
  have ht2 := ht.2
  refine zr_aloadn X dX7_maximumBetween_5 rfl ?_
  refine zr_iloadn X dX7_maximumBetween_6 rfl ?_
  refine zr_callVI X K (q := (RX7, TX7, 20)) (st := []) (c_X7_isNode l D cs ad hap (σ := σ1) hN (v := s) hs) ⟨tw_777, tw_779, tp_39, tw_8, tw_780⟩ dc_X7_isNode mM_0 rfl rfl rfl rfl rfl (Nat.le_of_ble_eq_true rfl) (by decide) dX7_maximumBetween_7 ?_
  intro y τ_ hp_
  obtain ⟨hτ_, hy01, hy⟩ := hp_
  subst τ_
  refine zr_if_eq X 21 dX7_maximumBetween_10 (by decide) (by rcases hy01 with q | q <;> exact ⟨by omega, by omega⟩) (fun t_10 => ?_) (fun f_10 => ?_)
  · refine zr_aloadn X dX7_maximumBetween_21 rfl ?_
    refine zr_iconst X dX7_maximumBetween_22 ?_
    refine zr_callVI X K (q := (RX7, TX7, 20)) (st := []) (c_X7_fail l D cs ad hap (σ := σ1) (k := 1)) ⟨tw_769, tw_771, tp_38, tw_8, tw_772⟩ dc_X7_fail mM_0 rfl rfl rfl rfl rfl (Nat.le_of_ble_eq_true rfl) (by decide) dX7_maximumBetween_23 ?_
    intro z τ hp
    obtain ⟨hτ, hz⟩ := hp
    have htt : τ (4, 1) 0 = 1 := by rw [hτ, mset_same]
    have hqf := hq1.tr (fq_set hτ.symm)
    refine zr_iret X hr dX7_maximumBetween_26 ?_
    first | exact ⟨hqf, Or.inl ⟨by omega, htt⟩⟩ | exact ⟨hqf, Or.inr ⟨by omega, Or.inl ⟨by omega, htt⟩⟩⟩
  · refine zr_aloadn X dX7_maximumBetween_13 rfl ?_
    refine zr_iloadn X dX7_maximumBetween_14 rfl ?_
    refine zr_callVI X K (q := (RX7, TX7, 20)) (st := []) (c_X7_isNode l D cs ad hap (σ := σ1) hN (v := t) ht) ⟨tw_777, tw_779, tp_39, tw_8, tw_780⟩ dc_X7_isNode mM_0 rfl rfl rfl rfl rfl (Nat.le_of_ble_eq_true rfl) (by decide) dX7_maximumBetween_15 ?_
    intro x τ_ hp_
    obtain ⟨hτ_, hx01, hx⟩ := hp_
    subst τ_
    refine zr_if_ne X 27 dX7_maximumBetween_18 (by decide) (by rcases hx01 with q | q <;> exact ⟨by omega, by omega⟩) (fun t_18 => ?_) (fun f_18 => ?_)
    · refine zr_iloadn X dX7_maximumBetween_27 rfl ?_
      refine zr_iloadn X dX7_maximumBetween_28 rfl ?_
      refine zr_icmp_ne X 38 dX7_maximumBetween_29 (by decide) ⟨by omega, by omega⟩ ⟨by omega, by omega⟩ (fun t_29 => ?_) (fun f_29 => ?_)
      · refine zr_aloadn X dX7_maximumBetween_38 rfl ?_
        refine zr_callVV X K (q := (RX7, TX7, 20)) (st := []) (c_X7_empty l D cs ad hap (σ := σ1) hN) ⟨tw_849, tw_851, tp_42, tw_8, tw_852⟩ dc_X7_empty mM_0 rfl rfl rfl rfl rfl (Nat.le_of_ble_eq_true rfl) (by decide) dX7_maximumBetween_39 ?_
        intro υ hem
        have hNu := hem.1.net hN
        have u2 : υ (4, 2) 0 = σ1 (4, 2) 0 := congrFun (hem.1 (4, 2) (by decide)) 0
        refine zr_aloadn X dX7_maximumBetween_42 rfl ?_
        refine zr_iloadn X dX7_maximumBetween_43 rfl ?_
        refine zr_iloadn X dX7_maximumBetween_44 rfl ?_
        refine zr_ldc (n := 200000000) X dX7_maximumBetween_45 tw_853 rfl ?_
        refine zr_callVI X K (q := (RX7, TX7, 20)) (st := []) (c_X7_fill l D cs ad hap (σ := υ) hNu (mres_of hem.1 h1.c2 hem.2) (u := s) (t := t) (L := 200000000) (by omega) (by omega) (by omega) ⟨by omega, by omega⟩) ⟨tw_854, tw_856, tp_43, tw_8, tw_857⟩ dc_X7_fill mM_0 rfl rfl rfl rfl rfl (Nat.le_of_ble_eq_true rfl) (by decide) dX7_maximumBetween_47 ?_
        intro z τ2 hfi
        have hst := mst_of hm.1 hem.1 hem.2 (cut2_s hm (by omega) (fun a a0 a1 => by have := h1.2.1 a a0 a1; omega)) hfi
        have hmn := hq1.mn (mst_mn hm.1 hst)
        rw [e6] at hmn
        have tx : τ2 (4, 1) 0 = σ1 (4, 1) 0 := congrFun (hst.1 (4, 1) (by decide)) 0
        refine zr_iret X hr dX7_maximumBetween_50 ?_
        exact ⟨hq1.tr (fq_x hst.1), Or.inr ⟨by omega, Or.inr ⟨by omega, by omega, hmn⟩⟩⟩
      · refine zr_aloadn X dX7_maximumBetween_32 rfl ?_
        refine zr_iconst X dX7_maximumBetween_33 ?_
        refine zr_callVI X K (q := (RX7, TX7, 20)) (st := []) (c_X7_fail l D cs ad hap (σ := σ1) (k := 2)) ⟨tw_769, tw_771, tp_38, tw_8, tw_772⟩ dc_X7_fail mM_0 rfl rfl rfl rfl rfl (Nat.le_of_ble_eq_true rfl) (by decide) dX7_maximumBetween_34 ?_
        intro z τ hp
        obtain ⟨hτ, hz⟩ := hp
        have htt : τ (4, 1) 0 = 2 := by rw [hτ, mset_same]
        have hqf := hq1.tr (fq_set hτ.symm)
        refine zr_iret X hr dX7_maximumBetween_37 ?_
        first | exact ⟨hqf, Or.inl ⟨by omega, htt⟩⟩ | exact ⟨hqf, Or.inr ⟨by omega, Or.inl ⟨by omega, htt⟩⟩⟩
    · refine zr_aloadn X dX7_maximumBetween_21 rfl ?_
      refine zr_iconst X dX7_maximumBetween_22 ?_
      refine zr_callVI X K (q := (RX7, TX7, 20)) (st := []) (c_X7_fail l D cs ad hap (σ := σ1) (k := 1)) ⟨tw_769, tw_771, tp_38, tw_8, tw_772⟩ dc_X7_fail mM_0 rfl rfl rfl rfl rfl (Nat.le_of_ble_eq_true rfl) (by decide) dX7_maximumBetween_23 ?_
      intro z τ hp
      obtain ⟨hτ, hz⟩ := hp
      have htt : τ (4, 1) 0 = 1 := by rw [hτ, mset_same]
      have hqf := hq1.tr (fq_set hτ.symm)
      refine zr_iret X hr dX7_maximumBetween_26 ?_
      first | exact ⟨hqf, Or.inl ⟨by omega, htt⟩⟩ | exact ⟨hqf, Or.inr ⟨by omega, Or.inl ⟨by omega, htt⟩⟩⟩

set_option maxHeartbeats 4000000 in
set_option maxRecDepth 100000 in
theorem c_X7_utilization (l : Launch) (D : va_G) (cs : Nat → ClassId) (ad : Ix → Nat) (hap : Apart idsM ad) {σ : Mem} (h : mOk σ) : CD l D cs idsM ad yX7_utilization cX7_utilization 3 3 [(.ref (ad (4, 0)))] σ (fun z τ => fq σ τ ∧ ((mEn σ ∧ τ (4, 1) 0 = 1) ∨ (mEy σ ∧ τ (4, 1) 0 = 0 ∧ utM σ z))) := by
  refine CD.of RX7 hap idsM_nd (by decide) rfl (Nat.le_of_ble_eq_true rfl) ?_
  intro pg ev s0 mi av bl mt cd X K hr
  refine zr_aloadn X dX7_utilization_0 rfl ?_
  refine zr_iconst X dX7_utilization_1 ?_
  refine zr_put X K (q := (4, 1)) (C := RX7) (T := TX7) (ty0 := tyX7) (N := 20) (k := 0) mM_0 (fun _ => rfl) (by simp [mset]) rfl rfl ti_7 tyX7_ok nmX7 (by decide) rfl tw_700 rfl rfl rfl (Nat.le_of_ble_eq_true rfl) dX7_utilization_2 ?_
  generalize hm_σ1 : mset σ (4, 1) 0 0 = σ1
  have hq1 : fq σ σ1 := fq_set hm_σ1
  have t1 := congrArg (fun μ : Mem => μ (4, 1) 0) hm_σ1
  have h1 := hq1.ok h
  have hN := h1.1
  have hn := hN.1
  have hm := hN.2.1
  have hE := h1.2.2.1
  have hEs := h.2.2.1
  unfold mEn mEy at hE
  have e7 : σ1 (4, 7) 0 = σ (4, 7) 0 := congrFun (hq1 (4, 7) (by decide)) 0
  have e8 : σ1 (4, 8) 0 = σ (4, 8) 0 := congrFun (hq1 (4, 8) (by decide)) 0
  have e2 : σ1 (4, 2) 0 = σ (4, 2) 0 := congrFun (hq1 (4, 2) (by decide)) 0
  have e3 : σ1 (4, 3) 0 = σ (4, 3) 0 := congrFun (hq1 (4, 3) (by decide)) 0
  have e6 : σ1 (4, 6) = σ (4, 6) := hq1 (4, 6) (by decide)
  have e4 : σ1 (4, 4) = σ (4, 4) := hq1 (4, 4) (by decide)
  have e5 : σ1 (4, 5) = σ (4, 5) := hq1 (4, 5) (by decide)
  simp only [mset_same] at t1
  have o1 : outM σ1 = outM σ := by
    funext j
    unfold outM
    rw [e4, e6, e7]
  have hor := outM_rg h1
  rw [o1, e3] at hor
  refine zr_aloadn X dX7_utilization_5 rfl ?_
  refine zr_get X K (C := RX7) (T := TX7) (N := 20) (k := 6) mM_0 rfl rfl ti_7 (by decide) rfl tw_706 rfl dX7_utilization_6 ?_
  refine zr_iconst X dX7_utilization_9 ?_
  refine zr_icmp_ne X 20 dX7_utilization_10 (by decide) ⟨by omega, by omega⟩ ⟨by omega, by omega⟩ (fun t_10 => ?_) (fun f_10 => ?_)
  · have hEy : mEy σ := hEs.resolve_left (fun q => by unfold mEn at q; omega)
    have hEy1 := hq1.ey hEy
    refine zr_iconst X dX7_utilization_20 ?_
    refine zr_istoren X dX7_utilization_21 (by decide) rfl ?_
    refine zr_iconst X dX7_utilization_22 ?_
    refine zr_istoren X dX7_utilization_23 (by decide) rfl ?_
    have loop_24 : ∀ (n_24 : Nat) (x : Int) (i : Int), ((0 ≤ i ∧ i ≤ σ1 (4, 3) 0) ∧ x = sm (outM σ) i.toNat) → (σ1 (4, 3) 0 - i).toNat < n_24 → Wx pg l ev (rmm 3 0 0) s0 mi av bl mt cd D cs idsM ad (Rg idsM ad) s0.heap 3 (MQ bl (qD D cs idsM ad ((fun z τ => fq σ τ ∧ ((mEn σ ∧ τ (4, 1) 0 = 1) ∨ (mEy σ ∧ τ (4, 1) 0 = 0 ∧ utM σ z))))) av s0 0 0 (Rg idsM ad)) 0 0 σ1 24 [some (.ref (ad (4, 0))), some (jI x), some (jI i)] [] := by
      intro n_24
      induction n_24 with
      | zero => exact fun x i hinv hn => absurd hn (Nat.not_lt_zero _)
      | succ n_24 ih_24 =>
        intro x i hI_24 hn_24
        have hi0 := hI_24.1
        have hxx := hI_24.2
        have f4 := congrFun e4 i
        have f6 := congrFun e6 i
        refine zr_iloadn X dX7_utilization_24 rfl ?_
        refine zr_aloadn X dX7_utilization_25 rfl ?_
        refine zr_get X K (C := RX7) (T := TX7) (N := 20) (k := 2) mM_0 rfl rfl ti_7 (by decide) rfl tw_702 rfl dX7_utilization_26 ?_
        refine zr_icmp_ge X 64 dX7_utilization_29 (by decide) ⟨by omega, by omega⟩ ⟨by omega, by omega⟩ (fun t_29 => ?_) (fun f_29 => ?_)
        · have hi : i = σ (4, 3) 0 := by omega
          rw [hi] at hxx
          have hEy1 := hq1.ey hEy
          refine zr_iloadn X dX7_utilization_64 rfl ?_
          refine zr_if_ne X 72 dX7_utilization_65 (by decide) ⟨by omega, by omega⟩ (fun t_65 => ?_) (fun f_65 => ?_)
          · refine zr_aloadn X dX7_utilization_72 rfl ?_
            refine zr_callVI X K (q := (RX7, TX7, 20)) (st := []) (c_X7_maximumNow l D cs ad hap (σ := σ1) hN h1.c2 hEy1 (h1.cut hEy1)) ⟨tw_845, tw_847, tp_41, tw_8, tw_848⟩ dc_X7_maximumNow mM_0 rfl rfl rfl rfl rfl (Nat.le_of_ble_eq_true rfl) (by decide) dX7_utilization_73 ?_
            intro F τ2 hst
            have hqx := hq1.tr (fq_x hst.1)
            have hmn := hq1.mn (mst_mn hm.1 hst)
            rw [e6, e7, e8] at hmn
            have tx : τ2 (4, 1) 0 = σ1 (4, 1) 0 := congrFun (hst.1 (4, 1) (by decide)) 0
            refine zr_i2d X dX7_utilization_76 ?_
            refine zr_iloadn X dX7_utilization_77 rfl ?_
            refine zr_i2d X dX7_utilization_78 ?_
            refine zr_ddiv X dX7_utilization_79 (div_n (d1_i ⟨by have := mn_rg1 h hEy hmn; omega, by have := mn_rg1 h hEy hmn; omega⟩) (d1_i ⟨by omega, by omega⟩) (by omega)) ?_
            refine zr_dret X hr dX7_utilization_80 ?_
            exact ⟨hqx, Or.inr ⟨hEy, by omega, Or.inr ⟨by omega, F, hmn, by rw [← hxx]⟩⟩⟩
          · refine zr_dconst0 X dX7_utilization_68 ?_
            refine zr_goto X 80 dX7_utilization_69 (by decide) ?_
            refine zr_dret X hr dX7_utilization_80 ?_
            exact ⟨hq1, Or.inr ⟨hEy, by omega, Or.inl ⟨by omega, rfl⟩⟩⟩
        · have hNi := hN.2.2 i hi0.1 (by omega)
          refine zr_iloadn X dX7_utilization_32 rfl ?_
          refine zr_aloadn X dX7_utilization_33 rfl ?_
          refine zr_get X K (C := RX7) (T := TX7) (N := 20) (k := 3) mM_0 rfl rfl ti_7 (by decide) rfl tw_703 rfl dX7_utilization_34 ?_
          refine zr_iloadn X dX7_utilization_37 rfl ?_
          refine zr_iald X K (n := 80) mM_4 rfl (by decide) (by omega) dX7_utilization_38 ?_
          refine zr_aloadn X dX7_utilization_39 rfl ?_
          refine zr_get X K (C := RX7) (T := TX7) (N := 20) (k := 6) mM_0 rfl rfl ti_7 (by decide) rfl tw_706 rfl dX7_utilization_40 ?_
          refine zr_icmp_ne X 55 dX7_utilization_43 (by decide) ⟨by omega, by omega⟩ ⟨by omega, by omega⟩ (fun t_43 => ?_) (fun f_43 => ?_)
          · refine zr_iconst X dX7_utilization_55 ?_
            refine zr_iadd X dX7_utilization_56 ?_
            refine zr_istoren X dX7_utilization_57 (by decide) rfl ?_
            refine zr_iinc X dX7_utilization_58 rfl (by decide) rfl ?_
            refine zr_goto X 24 dX7_utilization_61 (by decide) ?_
            refine Wx.weak (lo' := [some (.ref (ad (4, 0))), some (jI (x + 0)), some (jI (i + 1))]) ⟨rfl, rfl, rfl, trivial⟩ ?_
            exact ih_24 _ _ ⟨⟨by omega, by omega⟩, by rw [sm_succ hi0.1, ← hxx]; unfold outM; (first | rw [if_pos (by omega)] | rw [if_neg (by omega)]) <;> omega⟩ (by omega)
          · refine zr_aloadn X dX7_utilization_46 rfl ?_
            refine zr_get X K (C := RX7) (T := TX7) (N := 20) (k := 5) mM_0 rfl rfl ti_7 (by decide) rfl tw_705 rfl dX7_utilization_47 ?_
            refine zr_iloadn X dX7_utilization_50 rfl ?_
            refine zr_iald X K (n := 80) mM_6 rfl (by decide) (by omega) dX7_utilization_51 ?_
            refine zr_goto X 56 dX7_utilization_52 (by decide) ?_
            refine zr_iadd X dX7_utilization_56 ?_
            refine zr_istoren X dX7_utilization_57 (by decide) rfl ?_
            refine zr_iinc X dX7_utilization_58 rfl (by decide) rfl ?_
            refine zr_goto X 24 dX7_utilization_61 (by decide) ?_
            refine Wx.weak (lo' := [some (.ref (ad (4, 0))), some (jI (x + (σ1 (4, 6) i))), some (jI (i + 1))]) ⟨rfl, rfl, rfl, trivial⟩ ?_
            exact ih_24 _ _ ⟨⟨by omega, by omega⟩, by rw [sm_succ hi0.1, ← hxx]; unfold outM; (first | rw [if_pos (by omega)] | rw [if_neg (by omega)]) <;> omega⟩ (by omega)
    refine Wx.weak (lo' := [some (.ref (ad (4, 0))), some (jI 0), some (jI 0)]) ⟨rfl, rfl, rfl, trivial⟩ ?_
    exact loop_24 _ _ _ ⟨⟨by omega, by omega⟩, rfl⟩ (Nat.lt_succ_self _)
  · have hEn : mEn σ := hEs.resolve_right (fun q => by unfold mEy at q; omega)
    refine zr_aloadn X dX7_utilization_13 rfl ?_
    refine zr_iconst X dX7_utilization_14 ?_
    refine zr_callVI X K (q := (RX7, TX7, 20)) (st := []) (c_X7_fail l D cs ad hap (σ := σ1) (k := 1)) ⟨tw_769, tw_771, tp_38, tw_8, tw_772⟩ dc_X7_fail mM_0 rfl rfl rfl rfl rfl (Nat.le_of_ble_eq_true rfl) (by decide) dX7_utilization_15 ?_
    intro z τ hp
    obtain ⟨hτ, hz⟩ := hp
    have htt : τ (4, 1) 0 = 1 := by rw [hτ, mset_same]
    have hqf := hq1.tr (fq_set hτ.symm)
    refine zr_i2d X dX7_utilization_18 ?_
    refine zr_dret X hr dX7_utilization_19 ?_
    exact ⟨hqf, Or.inl ⟨hEn, htt⟩⟩
