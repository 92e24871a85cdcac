/-! StrictMath.rint -/

set_option maxHeartbeats 4000000 in
set_option maxRecDepth 100000 in
theorem c_JS_rint (l : Launch) (D : va_G) (cs : Nat → ClassId) (ad : Ix → Nat) (hap : Apart idsM ad) {σ : Mem} {a : UInt64} {n : Int} (ha : a.toNat < 2 ^ 63) (hn : 0 ≤ n ∧ n ≤ 8000000000) (h : D8 n a) : CD l D cs idsM ad yJxfc994_rint_294c1 cJxfc994_rint_294c1 6 2 [(.double (a))] σ (fun z τ => τ = σ ∧ D1 (rn8 n) z) := by
  refine CD.of RJxfc994 hap idsM_nd (by decide) rfl (Nat.le_of_ble_eq_true rfl) ?_
  intro pg ev s0 mi av bl mt cd X K hr
  have hr8 := rn8_rg hn
  have hB := d1_big h hn
  have hS : D1 (rn8 n) (FP.dsub (FP.dadd (4841369599423283200) (a)) (4841369599423283200)) := by
    have := d1_sub hB d1_52 (by omega)
    rwa [show 4503599627370496 + rn8 n - 4503599627370496 = rn8 n by omega] at this
  have hM : D1 (rn8 n) (FP.dmul (4607182418800017408) (FP.dsub (FP.dadd (4841369599423283200) (a)) (4841369599423283200))) := by
    have := d1_mul d1_1 hS (by omega)
    rwa [Int.one_mul] at this
  refine zr_ldc2d X dJxfc994_rint_294c1_0 tw_804 ?_
  refine zr_dstoren X dJxfc994_rint_294c1_3 (by decide) rfl ?_
  refine zr_dconst1 X dJxfc994_rint_294c1_4 ?_
  refine zr_dloadn X dJxfc994_rint_294c1_5 rfl ?_
  refine zr_cpsD X tw_805 ha (d8_n h) (Nat.le_of_ble_eq_true rfl) ⟨Nat.le_of_ble_eq_true rfl, Nat.le_of_ble_eq_true rfl⟩ dJxfc994_rint_294c1_6 ?_
  refine zr_dstore X dJxfc994_rint_294c1_9 (by decide) rfl ?_
  refine zr_dloadn X dJxfc994_rint_294c1_11 rfl ?_
  refine zr_absD X tw_816 ha (d8_n h) (Nat.le_of_ble_eq_true rfl) ⟨Nat.le_of_ble_eq_true rfl, Nat.le_of_ble_eq_true rfl⟩ dJxfc994_rint_294c1_12 ?_
  refine zr_dstoren X dJxfc994_rint_294c1_15 (by decide) rfl ?_
  refine zr_dloadn X dJxfc994_rint_294c1_16 rfl ?_
  refine zr_dloadn X dJxfc994_rint_294c1_17 rfl ?_
  refine zr_dcmp X dJxfc994_rint_294c1_18 (d8_cm h (d8_of d1_52)) ?_
  refine zr_if_ge X 28 dJxfc994_rint_294c1_19 (by decide) cm3_rg (fun t_19 => ?_) (fun f_19 => ?_)
  · exfalso
    have := cm3_lt (i := n) (j := 8 * 4503599627370496)
    omega
  · refine zr_dloadn X dJxfc994_rint_294c1_22 rfl ?_
    refine zr_dloadn X dJxfc994_rint_294c1_23 rfl ?_
    refine zr_dadd X dJxfc994_rint_294c1_24 (d1_n hB) ?_
    refine zr_dloadn X dJxfc994_rint_294c1_25 rfl ?_
    refine zr_dsub X dJxfc994_rint_294c1_26 (d1_n hS) ?_
    refine zr_dstoren X dJxfc994_rint_294c1_27 (by decide) rfl ?_
    refine zr_dload X dJxfc994_rint_294c1_28 rfl ?_
    refine zr_dloadn X dJxfc994_rint_294c1_30 rfl ?_
    refine zr_dmul X dJxfc994_rint_294c1_31 (d1_n hM) ?_
    refine zr_dret X hr dJxfc994_rint_294c1_32 ?_
    exact ⟨rfl, hM⟩

