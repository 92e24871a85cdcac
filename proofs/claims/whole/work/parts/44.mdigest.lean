/-! THE REFERENCE: digest -/
def dgM (σ : Mem) (z : Int) : Prop := (mEn σ ∧ z = dg0 (σ (4, 2) 0) (σ (4, 3) 0) (σ (4, 9) 0) (σ (4, 6)) (σ (4, 7) 0) (σ (4, 8) 0)) ∨ (mEy σ ∧ ∃ F a b, mnM σ (σ (4, 6)) (σ (4, 7) 0) (σ (4, 8) 0) F ∧ smM σ a ∧ gtM σ b ∧ z = ((dg0 (σ (4, 2) 0) (σ (4, 3) 0) (σ (4, 9) 0) (σ (4, 6)) (σ (4, 7) 0) (σ (4, 8) 0) * 31 + F) * 31 + a) * 31 + b)

set_option maxHeartbeats 4000000 in
set_option maxRecDepth 100000 in
theorem c_X7_digest (l : Launch) (D : va_G) (cs : Nat → ClassId) (ad : Ix → Nat) (hap : Apart idsM ad) {σ : Mem} (h : mOk σ) : CL l D cs idsM ad yX7_digest cX7_digest 4 5 [(.ref (ad (4, 0)))] σ (fun z τ => fq σ τ ∧ τ (4, 1) 0 = 0 ∧ dgM σ z) := by
  refine CL.of RX7 hap idsM_nd (by decide) rfl (Nat.le_of_ble_eq_true rfl) ?_
  intro pg ev s0 mi av bl mt cd X K hr
  refine zr_aloadn X dX7_digest_0 rfl ?_
  refine zr_iconst X dX7_digest_1 ?_
  refine zr_put X K (q := (4, 1)) (C := RX7) (T := TX7) (ty0 := tyX7) (N := 20) (k := 0) mM_0 (fun _ => rfl) (by simp [mset]) rfl rfl ti_7 tyX7_ok nmX7 (by decide) rfl tw_700 rfl rfl rfl (Nat.le_of_ble_eq_true rfl) dX7_digest_2 ?_
  generalize hm_σ1 : mset σ (4, 1) 0 0 = σ1
  have hq1 : fq σ σ1 := fq_set hm_σ1
  have t1 := congrArg (fun μ : Mem => μ (4, 1) 0) hm_σ1
  have h1 := hq1.ok h
  have hN := h1.1
  have hn := hN.1
  have hm := hN.2.1
  have hE := h1.2.2.1
  have hEs := h.2.2.1
  unfold mEn mEy at hE
  have e7 : σ1 (4, 7) 0 = σ (4, 7) 0 := congrFun (hq1 (4, 7) (by decide)) 0
  have e8 : σ1 (4, 8) 0 = σ (4, 8) 0 := congrFun (hq1 (4, 8) (by decide)) 0
  have e2 : σ1 (4, 2) 0 = σ (4, 2) 0 := congrFun (hq1 (4, 2) (by decide)) 0
  have e3 : σ1 (4, 3) 0 = σ (4, 3) 0 := congrFun (hq1 (4, 3) (by decide)) 0
  have e6 : σ1 (4, 6) = σ (4, 6) := hq1 (4, 6) (by decide)
  have e4 : σ1 (4, 4) = σ (4, 4) := hq1 (4, 4) (by decide)
  have e5 : σ1 (4, 5) = σ (4, 5) := hq1 (4, 5) (by decide)
  simp only [mset_same] at t1
  have e9 : σ1 (4, 9) 0 = σ (4, 9) 0 := congrFun (hq1 (4, 9) (by decide)) 0
  have hlv := h1.2.2.2.1
  have hg0 : (-1 ≤ σ1 (4, 7) 0 ∧ σ1 (4, 7) 0 < 24) ∧ -1 ≤ σ1 (4, 8) 0 ∧ σ1 (4, 8) 0 < 24 := by omega
  refine zr_ldc2l (n := 1147) X dX7_digest_5 tw_971 rfl ?_
  refine zr_aloadn X dX7_digest_8 rfl ?_
  refine zr_get X K (C := RX7) (T := TX7) (N := 20) (k := 1) mM_0 rfl rfl ti_7 (by decide) rfl tw_701 rfl dX7_digest_9 ?_
  refine zr_i2l X dX7_digest_12 ⟨by omega, by omega⟩ ?_
  refine zr_ladd X dX7_digest_13 ?_
  refine zr_ldc2l (n := 31) X dX7_digest_14 tw_972 rfl ?_
  refine zr_lmul X dX7_digest_17 ?_
  refine zr_aloadn X dX7_digest_18 rfl ?_
  refine zr_get X K (C := RX7) (T := TX7) (N := 20) (k := 2) mM_0 rfl rfl ti_7 (by decide) rfl tw_702 rfl dX7_digest_19 ?_
  refine zr_i2l X dX7_digest_22 ⟨by omega, by omega⟩ ?_
  refine zr_ladd X dX7_digest_23 ?_
  refine zr_ldc2l (n := 31) X dX7_digest_24 tw_972 rfl ?_
  refine zr_lmul X dX7_digest_27 ?_
  refine zr_aloadn X dX7_digest_28 rfl ?_
  refine zr_get X K (C := RX7) (T := TX7) (N := 20) (k := 8) mM_0 rfl rfl ti_7 (by decide) rfl tw_708 rfl dX7_digest_29 ?_
  refine zr_i2l X dX7_digest_32 ⟨by omega, by omega⟩ ?_
  refine zr_ladd X dX7_digest_33 ?_
  refine zr_lstoren X dX7_digest_34 (by decide) rfl ?_
  refine zr_iconst X dX7_digest_35 ?_
  refine zr_istoren X dX7_digest_36 (by decide) rfl ?_
  have loop_37 : ∀ (n_37 : Nat) (d : Int) (i : Int), ((0 ≤ i ∧ i ≤ σ1 (4, 3) 0) ∧ d = dgS (σ1 (4, 6)) (((37 * 31 + σ1 (4, 2) 0) * 31 + σ1 (4, 3) 0) * 31 + σ1 (4, 9) 0) i.toNat) → (σ1 (4, 3) 0 - i).toNat < n_37 → Wx pg l ev (rmm 5 0 0) s0 mi av bl mt cd D cs idsM ad (Rg idsM ad) s0.heap 4 (MQ bl (qL D cs idsM ad ((fun z τ => fq σ τ ∧ τ (4, 1) 0 = 0 ∧ dgM σ z))) av s0 0 0 (Rg idsM ad)) 0 0 σ1 37 [some (.ref (ad (4, 0))), some (.long (iL (d))), none, some (jI i)] [] := by
    intro n_37
    induction n_37 with
    | zero => exact fun d i hinv hn => absurd hn (Nat.not_lt_zero _)
    | succ n_37 ih_37 =>
      intro d i hI_37 hn_37
      have hi0 := hI_37.1
      have hd := hI_37.2
      refine zr_iloadn X dX7_digest_37 rfl ?_
      refine zr_aloadn X dX7_digest_38 rfl ?_
      refine zr_get X K (C := RX7) (T := TX7) (N := 20) (k := 2) mM_0 rfl rfl ti_7 (by decide) rfl tw_702 rfl dX7_digest_39 ?_
      refine zr_icmp_ge X 65 dX7_digest_42 (by decide) ⟨by omega, by omega⟩ ⟨by omega, by omega⟩ (fun t_42 => ?_) (fun f_42 => ?_)
      · have hi : i = σ1 (4, 3) 0 := by omega
        rw [hi] at hd
        have hdg : (d * 31 + σ1 (4, 7) 0) * 31 + σ1 (4, 8) 0 = dg0 (σ (4, 2) 0) (σ (4, 3) 0) (σ (4, 9) 0) (σ (4, 6)) (σ (4, 7) 0) (σ (4, 8) 0) := by
          rw [hd, e2, e3, e9, e6, e7, e8]
          rfl
        refine zr_lloadn X dX7_digest_65 rfl ?_
        refine zr_ldc2l (n := 31) X dX7_digest_66 tw_972 rfl ?_
        refine zr_lmul X dX7_digest_69 ?_
        refine zr_aloadn X dX7_digest_70 rfl ?_
        refine zr_get X K (C := RX7) (T := TX7) (N := 20) (k := 6) mM_0 rfl rfl ti_7 (by decide) rfl tw_706 rfl dX7_digest_71 ?_
        refine zr_i2l X dX7_digest_74 ⟨by omega, by omega⟩ ?_
        refine zr_ladd X dX7_digest_75 ?_
        refine zr_ldc2l (n := 31) X dX7_digest_76 tw_972 rfl ?_
        refine zr_lmul X dX7_digest_79 ?_
        refine zr_aloadn X dX7_digest_80 rfl ?_
        refine zr_get X K (C := RX7) (T := TX7) (N := 20) (k := 7) mM_0 rfl rfl ti_7 (by decide) rfl tw_707 rfl dX7_digest_81 ?_
        refine zr_i2l X dX7_digest_84 ⟨by omega, by omega⟩ ?_
        refine zr_ladd X dX7_digest_85 ?_
        refine zr_lstoren X dX7_digest_86 (by decide) rfl ?_
        refine zr_aloadn X dX7_digest_87 rfl ?_
        refine zr_get X K (C := RX7) (T := TX7) (N := 20) (k := 6) mM_0 rfl rfl ti_7 (by decide) rfl tw_706 rfl dX7_digest_88 ?_
        refine zr_iconst X dX7_digest_91 ?_
        refine zr_icmp_ne X 97 dX7_digest_92 (by decide) ⟨by omega, by omega⟩ ⟨by omega, by omega⟩ (fun t_92 => ?_) (fun f_92 => ?_)
        · have hEy : mEy σ := hEs.resolve_left (fun q => by unfold mEn at q; omega)
          have hEy1 := hq1.ey hEy
          have hEy1 := hq1.ey hEy
          refine zr_lloadn X dX7_digest_97 rfl ?_
          refine zr_ldc2l (n := 31) X dX7_digest_98 tw_972 rfl ?_
          refine zr_lmul X dX7_digest_101 ?_
          refine zr_aloadn X dX7_digest_102 rfl ?_
          refine zr_callVI X K (q := (RX7, TX7, 20)) (st := [(.long (iL (((((d * 31) + (σ1 (4, 7) 0)) * 31) + (σ1 (4, 8) 0)) * 31)))]) (c_X7_maximumNow l D cs ad hap (σ := σ1) hN h1.c2 hEy1 (h1.cut hEy1)) ⟨tw_845, tw_847, tp_41, tw_8, tw_848⟩ dc_X7_maximumNow mM_0 rfl rfl rfl rfl rfl (Nat.le_of_ble_eq_true rfl) (by decide) dX7_digest_103 ?_
          intro F τ2 hst
          have hqx := hq1.tr (fq_x hst.1)
          have hmn := hq1.mn (mst_mn hm.1 hst)
          rw [e6, e7, e8] at hmn
          have tx : τ2 (4, 1) 0 = σ1 (4, 1) 0 := congrFun (hst.1 (4, 1) (by decide)) 0
          refine zr_i2l X dX7_digest_106 (by have := mn_rg1 h hEy hmn; exact ⟨by omega, by omega⟩) ?_
          refine zr_ladd X dX7_digest_107 ?_
          refine zr_ldc2l (n := 31) X dX7_digest_108 tw_972 rfl ?_
          refine zr_lmul X dX7_digest_111 ?_
          refine zr_aloadn X dX7_digest_112 rfl ?_
          refine zr_callVI X K (q := (RX7, TX7, 20)) (st := [(.long (iL (((((((d * 31) + (σ1 (4, 7) 0)) * 31) + (σ1 (4, 8) 0)) * 31) + F) * 31)))]) (c_X7_smallest l D cs ad hap (σ := τ2) (hqx.ok h) (hqx.ey hEy)) ⟨tw_915, tw_917, tp_50, tw_8, tw_918⟩ dc_X7_smallest mM_0 rfl rfl rfl rfl rfl (Nat.le_of_ble_eq_true rfl) (by decide) dX7_digest_113 ?_
          intro a τ3 hsm
          have hqs := hqx.tr hsm.1.1
          have hSm := hqx.sm hsm.2
          have ha0 := hSm.1.1
          have ha1 := hSm.1.2
          have ts : τ3 (4, 1) 0 = τ2 (4, 1) 0 := hsm.1.2.2.2.2
          refine zr_i2l X dX7_digest_116 ⟨by omega, by omega⟩ ?_
          refine zr_ladd X dX7_digest_117 ?_
          refine zr_ldc2l (n := 31) X dX7_digest_118 tw_972 rfl ?_
          refine zr_lmul X dX7_digest_121 ?_
          refine zr_aloadn X dX7_digest_122 rfl ?_
          refine zr_callVI X K (q := (RX7, TX7, 20)) (st := [(.long (iL (((((((((d * 31) + (σ1 (4, 7) 0)) * 31) + (σ1 (4, 8) 0)) * 31) + F) * 31) + a) * 31)))]) (c_X7_greatest l D cs ad hap (σ := τ3) (hqs.ok h) (hqs.ey hEy)) ⟨tw_927, tw_929, tp_52, tw_8, tw_930⟩ dc_X7_greatest mM_0 rfl rfl rfl rfl rfl (Nat.le_of_ble_eq_true rfl) (by decide) dX7_digest_123 ?_
          intro b τ4 hgt
          have hqg := hqs.tr hgt.1.1
          have hGt := hqs.gt hgt.2
          have hb0 := hGt.1.1
          have hb1 := hGt.1.2
          have tg : τ4 (4, 1) 0 = τ3 (4, 1) 0 := hgt.1.2.2.2.2
          refine zr_i2l X dX7_digest_126 ⟨by omega, by omega⟩ ?_
          refine zr_ladd X dX7_digest_127 ?_
          refine zr_lret X hr dX7_digest_128 ?_
          exact ⟨hqg, by omega, Or.inr ⟨hEy, F, a, b, hmn, hSm, hGt, by rw [← hdg]⟩⟩
        · have hEn : mEn σ := hEs.resolve_right (fun q => by unfold mEy at q; omega)
          refine zr_lloadn X dX7_digest_95 rfl ?_
          refine zr_lret X hr dX7_digest_96 ?_
          exact ⟨hq1, t1.symm, Or.inl ⟨hEn, hdg⟩⟩
      · have hci := h1.2.1 i hi0.1 (by omega)
        refine zr_lloadn X dX7_digest_45 rfl ?_
        refine zr_ldc2l (n := 31) X dX7_digest_46 tw_972 rfl ?_
        refine zr_lmul X dX7_digest_49 ?_
        refine zr_aloadn X dX7_digest_50 rfl ?_
        refine zr_get X K (C := RX7) (T := TX7) (N := 20) (k := 5) mM_0 rfl rfl ti_7 (by decide) rfl tw_705 rfl dX7_digest_51 ?_
        refine zr_iloadn X dX7_digest_54 rfl ?_
        refine zr_iald X K (n := 80) mM_6 rfl (by decide) (by omega) dX7_digest_55 ?_
        refine zr_i2l X dX7_digest_56 ⟨by omega, by omega⟩ ?_
        refine zr_ladd X dX7_digest_57 ?_
        refine zr_lstoren X dX7_digest_58 (by decide) rfl ?_
        refine zr_iinc X dX7_digest_59 rfl (by decide) rfl ?_
        refine zr_goto X 37 dX7_digest_62 (by decide) ?_
        refine Wx.weak (lo' := [some (.ref (ad (4, 0))), some (.long (iL ((d * 31) + (σ1 (4, 6) i)))), none, some (jI (i + 1))]) ⟨rfl, rfl, rfl, trivial⟩ ?_
        exact ih_37 _ _ ⟨⟨by omega, by omega⟩, by rw [dgS_succ hi0.1, ← hd]⟩ (by omega)
  refine Wx.weak (lo' := [some (.ref (ad (4, 0))), some (.long (iL (((((1147 + (σ1 (4, 2) 0)) * 31) + (σ1 (4, 3) 0)) * 31) + (σ1 (4, 9) 0)))), none, some (jI 0)]) ⟨rfl, rfl, rfl, trivial⟩ ?_
  exact loop_37 _ _ _ ⟨⟨by omega, by omega⟩, by show _ = ((37 * 31 + σ1 (4, 2) 0) * 31 + σ1 (4, 3) 0) * 31 + σ1 (4, 9) 0; omega⟩ (Nat.lt_succ_self _)
