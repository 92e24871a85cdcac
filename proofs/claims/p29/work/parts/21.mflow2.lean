/-! THE MAXIMUM FLOW: settling, values, masks, ends, copies -/
theorem st_0 {σ : Mem} {b : Nat} (h : mfOk σ b) (e : ¬ σ (b + 6, 10) 0 = 0) : stP σ σ b := ⟨h, by have := h.2.2.2.2.1; omega, Fr.rf⟩
/-- the value that a settled flow has is the maximum -/
theorem st_val {σ τ : Mem} {b : Nat} (h : stP σ τ b) : ∃ F, 0 ≤ F ∧ mfV τ b F ∧ mxB σ b (σ (b + 6, 8) 0) (σ (b + 6, 9) 0) F := by
  obtain ⟨hm, e, f⟩ := h
  obtain ⟨F, h0, hV⟩ := hm.2.2.1
  have hs := (hm.2.2.2.2.2.1 e).2
  have := mx_of hm.1.1 hm.1.2.2 hV hs
  unfold mxB at this
  rw [f.own 8, f.own 9, f.of 0 1, f.of 0 2, f.of 0 3, f.own 2] at this
  exact ⟨F, h0, hV, this⟩
def vaF (σ : Mem) (b : Nat) (s a : Int) : Int := (if σ (0, 2) a = s then σ (b + 6, 3) a else 0) - (if σ (0, 3) a = s then σ (b + 6, 3) a else 0)
/-- the nodes from which the sink cannot be reached -/
def gmP (σ : Mem) (b : Nat) (t k z : Int) : Prop := mk24 z ∧ ∀ v, 0 ≤ v → (bt z v = true ↔ v < k ∧ ∃ X : Int → Bool, clo σ b X ∧ X v = true ∧ ¬ X t = true)
theorem gm_0 {σ : Mem} {b : Nat} {t : Int} : gmP σ b t 0 0 := ⟨⟨by decide, by decide⟩, fun v hv => ⟨fun h => by unfold bt at h; simp at h, fun h => by omega⟩⟩
theorem rc_cut {σ : Mem} {b : Nat} {t k y : Int} (ht : 0 ≤ t) (h : rcP σ b k y) : ¬ bt y t = true ↔ ∃ X : Int → Bool, clo σ b X ∧ X k = true ∧ ¬ X t = true := ⟨fun q => ⟨bt y, h.2.2.1, h.2.1, q⟩, fun ⟨X, x1, x2, x3⟩ q => x3 (h.2.2.2 X x1 x2 t ht q)⟩
theorem gm_no {σ : Mem} {b : Nat} {t k z y : Int} (ht : 0 ≤ t) (h : gmP σ b t k z) (hr : rcP σ b k y) (q : bt y t = true) : gmP σ b t (k + 1) z := ⟨h.1, fun v hv => by
  rw [h.2 v hv]
  constructor
  · rintro ⟨h1, h2⟩; exact ⟨by omega, h2⟩
  · rintro ⟨h1, h2⟩
    refine ⟨?_, h2⟩
    by_cases e : v = k
    · subst e
      exact absurd q ((rc_cut ht hr).mpr h2)
    · omega⟩
theorem gm_yes {σ : Mem} {b : Nat} {t k z y : Int} (ht : 0 ≤ t) (hk : 0 ≤ k ∧ k < 24) (h : gmP σ b t k z) (hr : rcP σ b k y) (q : ¬ bt y t = true) : gmP σ b t (k + 1) (oI z (pI k)) := ⟨oI_lt h.1.2 (pI_rg hk.2).2, fun v hv => by
  rw [bt_o, bt_p hk.1 hv, Bool.or_eq_true, h.2 v hv, decide_eq_true_eq]
  constructor
  · rintro (⟨h1, h2⟩ | rfl)
    · exact ⟨by omega, h2⟩
    · exact ⟨by omega, (rc_cut ht hr).mp q⟩
  · rintro ⟨h1, h2⟩
    by_cases e : v = k
    · exact Or.inr e.symm
    · exact Or.inl ⟨by omega, h2⟩⟩

set_option maxHeartbeats 4000000 in
set_option maxRecDepth 100000 in
theorem c_X3_settle (l : Launch) (D : va_G) (cs : Nat → ClassId) (ad : Ix → Nat) (hap : Apart idsF ad) {b : Nat} (hb : b < 2) {σ : Mem} (h : mfOk σ b) (hE : endsYes σ b) (hc : cut8 σ b) : CV l D cs idsF ad yX3_settle cX3_settle 1 4 [(.ref (ad (b + 6, 0)))] σ (fun τ => stP σ τ b) := by
  refine CV.of RX3 hap idsF_nd (by decide) rfl (Nat.le_of_ble_eq_true rfl) ?_
  intro pg ev s0 mi av bl mt cd X K hr
  have hN := h.1.1
  have hn := hN.1
  have hs := h.2.2.2.2.1
  have hE2 := hE.1
  have hE3 := hE.2.1
  refine zr_aloadn X dX3_settle_0 rfl ?_
  refine zr_get X K (C := RX3) (T := TX3) (N := 6) (k := 5) (mB hb (by decide)) rfl rfl ti_3 (by decide) rfl tw_131 rfl dX3_settle_1 ?_
  refine zr_if_ne X 30 dX3_settle_4 (by decide) ⟨by omega, by omega⟩ (fun t_4 => ?_) (fun f_4 => ?_)
  · refine zr_vret X hr dX3_settle_30 ?_
    exact st_0 h t_4
  · refine zr_aloadn X dX3_settle_7 rfl ?_
    refine zr_get X K (C := RX3) (T := TX3) (N := 6) (k := 2) (mB hb (by decide)) rfl rfl ti_3 (by decide) rfl tw_125 rfl dX3_settle_8 ?_
    refine zr_aloadn X dX3_settle_11 rfl ?_
    refine zr_get X K (C := RX3) (T := TX3) (N := 6) (k := 3) (mB hb (by decide)) rfl rfl ti_3 (by decide) rfl tw_127 rfl dX3_settle_12 ?_
    refine zr_aloadn X dX3_settle_15 rfl ?_
    refine zr_get X K (C := RX3) (T := TX3) (N := 6) (k := 4) (mB hb (by decide)) rfl rfl ti_3 (by decide) rfl tw_129 rfl dX3_settle_16 ?_
    refine zr_ldc (n := 100000000) X dX3_settle_19 tw_414 rfl ?_
    refine zr_callNI X K (q := (RX5, TX5, 7)) (st := []) (c_X5_route l D cs ad hap hb (σ := σ) hN h.1.2.1 h.1.2.2 (s := σ (b + 6, 8) 0) (t := σ (b + 6, 9) 0) (B := 100000000) (by omega) (by omega) ⟨⟨by omega, by omega⟩, by omega⟩) ⟨tn_299, tw_301, tp_4, tw_5, tw_302⟩ dc_X5_route (mB hb (by decide)) rfl rfl rfl rfl rfl (Nat.le_of_ble_eq_true rfl) (by decide) dX3_settle_21 ?_
    intro z τ hp
    refine zr_pop X dX3_settle_24 rfl ?_
    refine zr_aloadn X dX3_settle_25 rfl ?_
    refine zr_iconst X dX3_settle_26 ?_
    refine zr_put X K (q := (b + 6, 10)) (C := RX3) (T := TX3) (ty0 := tyX3) (N := 6) (k := 5) (mB hb (by decide)) (fun _ => rfl) (by simp [mset]) rfl rfl ti_3 tyX3_ok nmX3 (by decide) rfl tw_131 rfl rfl rfl (Nat.le_of_ble_eq_true rfl) dX3_settle_27 ?_
    generalize hm_σ1 : mset τ (b + 6, 10) 0 1 = σ1
    refine zr_vret X hr dX3_settle_30 ?_
    exact st_of h hE hc hp hm_σ1

set_option maxHeartbeats 4000000 in
set_option maxRecDepth 100000 in
theorem c_X3_greatestValue (l : Launch) (D : va_G) (cs : Nat → ClassId) (ad : Ix → Nat) (hap : Apart idsF ad) {b : Nat} (hb : b < 2) {σ : Mem} (h : mfOk σ b) (hE : endsYes σ b) (hc : cut8 σ b) : CI l D cs idsF ad yX3_greatestValue cX3_greatestValue 3 .int 5 [(.ref (ad (b + 6, 0)))] σ (fun z τ => stP σ τ b ∧ mfV τ b z ∧ mxB σ b (σ (b + 6, 8) 0) (σ (b + 6, 9) 0) z) := by
  refine CI.of RX3 hap idsF_nd (by decide) rfl (Nat.le_of_ble_eq_true rfl) ?_
  intro pg ev s0 mi av bl mt cd X K hr
  have hn := h.1.1.1
  refine zr_aloadn X dX3_greatestValue_0 rfl ?_
  refine zr_callVV X K (q := (RX3, TX3, 6)) (st := []) (c_X3_settle l D cs ad hap hb (σ := σ) h hE hc) ⟨tw_410, tw_412, tp_19, tw_3, tw_413⟩ dc_X3_settle (mB hb (by decide)) rfl rfl rfl rfl rfl (Nat.le_of_ble_eq_true rfl) (by decide) dX3_greatestValue_1 ?_
  intro τ hst
  have hN := hst.1.1.1
  have hm := hN.2.1
  have hn2 := hN.1
  have hF := hst.1.1.2.2
  have hEτ := hst.2.2.eye (k := hE)
  have hE1 := hEτ.1
  refine zr_iconst X dX3_greatestValue_4 ?_
  refine zr_istoren X dX3_greatestValue_5 (by decide) rfl ?_
  refine zr_iconst X dX3_greatestValue_6 ?_
  refine zr_istoren X dX3_greatestValue_7 (by decide) rfl ?_
  have loop_8 : ∀ (n_8 : Nat) (y : Int) (i : Int), ((0 ≤ i ∧ i ≤ τ (0, 1) 0) ∧ y = sm (vaF τ b (τ (b + 6, 8) 0)) i.toNat) → (τ (0, 1) 0 - i).toNat < n_8 → Wx pg l ev (rmm 5 0 0) s0 mi av bl mt cd D cs idsF ad (Rg idsF ad) s0.heap 3 (MQ bl (qI D cs idsF ad ((fun z τ => stP σ τ b ∧ mfV τ b z ∧ mxB σ b (σ (b + 6, 8) 0) (σ (b + 6, 9) 0) z))) av s0 0 0 (Rg idsF ad)) 0 0 τ 8 [some (.ref (ad (b + 6, 0))), some (jI y), some (jI i)] [] := by
    intro n_8
    induction n_8 with
    | zero => exact fun y i hinv hn => absurd hn (Nat.not_lt_zero _)
    | succ n_8 ih_8 =>
      intro y i hI_8 hn_8
      have hi0 := hI_8.1
      have hy := hI_8.2
      refine zr_iloadn X dX3_greatestValue_8 rfl ?_
      refine zr_aloadn X dX3_greatestValue_9 rfl ?_
      refine zr_get X K (C := RX3) (T := TX3) (N := 6) (k := 0) (mB hb (by decide)) rfl rfl ti_3 (by decide) rfl tw_122 rfl dX3_greatestValue_10 ?_
      refine zr_getN X K (C := RX4) (T := TX4) (N := 6) (k := 1) mF_0_0 rfl rfl ti_4 (by decide) rfl tn_41 rfl dX3_greatestValue_13 ?_
      refine zr_icmp_ge X 81 dX3_greatestValue_16 (by decide) ⟨by omega, by omega⟩ ⟨by omega, by omega⟩ (fun t_16 => ?_) (fun f_16 => ?_)
      · refine zr_iloadn X dX3_greatestValue_81 rfl ?_
        refine zr_iret X hr dX3_greatestValue_82 ?_
        obtain ⟨F, hF0, hV, hX⟩ := st_val hst
        have hy2 : y = F := by
          have h1 := hV (fun v => decide (v = τ (b + 6, 8) 0))
          rw [net_at, ind_t (decide_eq_true rfl), ind_f (v := τ (b + 6, 9) 0) (by intro q; exact hEτ.2.2 (of_decide_eq_true q).symm)] at h1
          rw [hy, show i = τ (0, 1) 0 by omega]
          unfold vaF
          omega
        rw [hy2]
        exact ⟨hst, hV, hX⟩
      · have hi : 0 ≤ i ∧ i < τ (0, 1) 0 := ⟨by omega, by omega⟩
        have ht := (hN.2.2 i hi.1 hi.2).1
        have hh := (hN.2.2 i hi.1 hi.2).2.1
        refine zr_aloadn X dX3_greatestValue_19 rfl ?_
        refine zr_get X K (C := RX3) (T := TX3) (N := 6) (k := 0) (mB hb (by decide)) rfl rfl ti_3 (by decide) rfl tw_122 rfl dX3_greatestValue_20 ?_
        refine zr_getN X K (C := RX4) (T := TX4) (N := 6) (k := 2) mF_0_0 rfl rfl ti_4 (by decide) rfl tn_45 rfl dX3_greatestValue_23 ?_
        refine zr_iloadn X dX3_greatestValue_26 rfl ?_
        refine zr_iald X K (n := 80) mF_0_2 rfl (by decide) (by omega) dX3_greatestValue_27 ?_
        refine zr_aloadn X dX3_greatestValue_28 rfl ?_
        refine zr_get X K (C := RX3) (T := TX3) (N := 6) (k := 3) (mB hb (by decide)) rfl rfl ti_3 (by decide) rfl tw_127 rfl dX3_greatestValue_29 ?_
        refine zr_icmp_ne X 47 dX3_greatestValue_32 (by decide) ⟨by omega, by omega⟩ ⟨by omega, by omega⟩ (fun t_32 => ?_) (fun f_32 => ?_)
        · refine zr_aloadn X dX3_greatestValue_47 rfl ?_
          refine zr_get X K (C := RX3) (T := TX3) (N := 6) (k := 0) (mB hb (by decide)) rfl rfl ti_3 (by decide) rfl tw_122 rfl dX3_greatestValue_48 ?_
          refine zr_getN X K (C := RX4) (T := TX4) (N := 6) (k := 3) mF_0_0 rfl rfl ti_4 (by decide) rfl tn_47 rfl dX3_greatestValue_51 ?_
          refine zr_iloadn X dX3_greatestValue_54 rfl ?_
          refine zr_iald X K (n := 80) mF_0_3 rfl (by decide) (by omega) dX3_greatestValue_55 ?_
          refine zr_aloadn X dX3_greatestValue_56 rfl ?_
          refine zr_get X K (C := RX3) (T := TX3) (N := 6) (k := 3) (mB hb (by decide)) rfl rfl ti_3 (by decide) rfl tw_127 rfl dX3_greatestValue_57 ?_
          refine zr_icmp_ne X 75 dX3_greatestValue_60 (by decide) ⟨by omega, by omega⟩ ⟨by omega, by omega⟩ (fun t_60 => ?_) (fun f_60 => ?_)
          · refine zr_iinc X dX3_greatestValue_75 rfl (by decide) rfl ?_
            refine zr_goto X 8 dX3_greatestValue_78 (by decide) ?_
            refine Wx.weak (lo' := [some (.ref (ad (b + 6, 0))), some (jI y), some (jI (i + 1))]) ⟨rfl, rfl, rfl, trivial⟩ ?_
            exact ih_8 _ _ ⟨⟨by omega, by omega⟩, by rw [sm_succ hi0.1, ← hy]; unfold vaF; (first | rw [if_pos f_32] | rw [if_neg t_32]); (first | rw [if_pos f_60] | rw [if_neg t_60]); omega⟩ (by omega)
          · refine zr_iloadn X dX3_greatestValue_63 rfl ?_
            refine zr_aloadn X dX3_greatestValue_64 rfl ?_
            refine zr_get X K (C := RX3) (T := TX3) (N := 6) (k := 1) (mB hb (by decide)) rfl rfl ti_3 (by decide) rfl tw_123 rfl dX3_greatestValue_65 ?_
            refine zr_getN X K (C := RX1) (T := TX1) (N := 3) (k := 2) (mB hb (by decide)) rfl rfl ti_1 (by decide) rfl tn_85 rfl dX3_greatestValue_68 ?_
            refine zr_iloadn X dX3_greatestValue_71 rfl ?_
            refine zr_iald X K (n := 80) (mB hb (by decide)) rfl (by decide) (by omega) dX3_greatestValue_72 ?_
            refine zr_isub X dX3_greatestValue_73 ?_
            refine zr_istoren X dX3_greatestValue_74 (by decide) rfl ?_
            refine zr_iinc X dX3_greatestValue_75 rfl (by decide) rfl ?_
            refine zr_goto X 8 dX3_greatestValue_78 (by decide) ?_
            refine Wx.weak (lo' := [some (.ref (ad (b + 6, 0))), some (jI (y - (τ (b + 6, 3) i))), some (jI (i + 1))]) ⟨rfl, rfl, rfl, trivial⟩ ?_
            exact ih_8 _ _ ⟨⟨by omega, by omega⟩, by rw [sm_succ hi0.1, ← hy]; unfold vaF; (first | rw [if_pos f_32] | rw [if_neg t_32]); (first | rw [if_pos f_60] | rw [if_neg t_60]); omega⟩ (by omega)
        · refine zr_iloadn X dX3_greatestValue_35 rfl ?_
          refine zr_aloadn X dX3_greatestValue_36 rfl ?_
          refine zr_get X K (C := RX3) (T := TX3) (N := 6) (k := 1) (mB hb (by decide)) rfl rfl ti_3 (by decide) rfl tw_123 rfl dX3_greatestValue_37 ?_
          refine zr_getN X K (C := RX1) (T := TX1) (N := 3) (k := 2) (mB hb (by decide)) rfl rfl ti_1 (by decide) rfl tn_85 rfl dX3_greatestValue_40 ?_
          refine zr_iloadn X dX3_greatestValue_43 rfl ?_
          refine zr_iald X K (n := 80) (mB hb (by decide)) rfl (by decide) (by omega) dX3_greatestValue_44 ?_
          refine zr_iadd X dX3_greatestValue_45 ?_
          refine zr_istoren X dX3_greatestValue_46 (by decide) rfl ?_
          refine zr_aloadn X dX3_greatestValue_47 rfl ?_
          refine zr_get X K (C := RX3) (T := TX3) (N := 6) (k := 0) (mB hb (by decide)) rfl rfl ti_3 (by decide) rfl tw_122 rfl dX3_greatestValue_48 ?_
          refine zr_getN X K (C := RX4) (T := TX4) (N := 6) (k := 3) mF_0_0 rfl rfl ti_4 (by decide) rfl tn_47 rfl dX3_greatestValue_51 ?_
          refine zr_iloadn X dX3_greatestValue_54 rfl ?_
          refine zr_iald X K (n := 80) mF_0_3 rfl (by decide) (by omega) dX3_greatestValue_55 ?_
          refine zr_aloadn X dX3_greatestValue_56 rfl ?_
          refine zr_get X K (C := RX3) (T := TX3) (N := 6) (k := 3) (mB hb (by decide)) rfl rfl ti_3 (by decide) rfl tw_127 rfl dX3_greatestValue_57 ?_
          refine zr_icmp_ne X 75 dX3_greatestValue_60 (by decide) ⟨by omega, by omega⟩ ⟨by omega, by omega⟩ (fun t_60 => ?_) (fun f_60 => ?_)
          · refine zr_iinc X dX3_greatestValue_75 rfl (by decide) rfl ?_
            refine zr_goto X 8 dX3_greatestValue_78 (by decide) ?_
            refine Wx.weak (lo' := [some (.ref (ad (b + 6, 0))), some (jI (y + (τ (b + 6, 3) i))), some (jI (i + 1))]) ⟨rfl, rfl, rfl, trivial⟩ ?_
            exact ih_8 _ _ ⟨⟨by omega, by omega⟩, by rw [sm_succ hi0.1, ← hy]; unfold vaF; (first | rw [if_pos f_32] | rw [if_neg t_32]); (first | rw [if_pos f_60] | rw [if_neg t_60]); omega⟩ (by omega)
          · refine zr_iloadn X dX3_greatestValue_63 rfl ?_
            refine zr_aloadn X dX3_greatestValue_64 rfl ?_
            refine zr_get X K (C := RX3) (T := TX3) (N := 6) (k := 1) (mB hb (by decide)) rfl rfl ti_3 (by decide) rfl tw_123 rfl dX3_greatestValue_65 ?_
            refine zr_getN X K (C := RX1) (T := TX1) (N := 3) (k := 2) (mB hb (by decide)) rfl rfl ti_1 (by decide) rfl tn_85 rfl dX3_greatestValue_68 ?_
            refine zr_iloadn X dX3_greatestValue_71 rfl ?_
            refine zr_iald X K (n := 80) (mB hb (by decide)) rfl (by decide) (by omega) dX3_greatestValue_72 ?_
            refine zr_isub X dX3_greatestValue_73 ?_
            refine zr_istoren X dX3_greatestValue_74 (by decide) rfl ?_
            refine zr_iinc X dX3_greatestValue_75 rfl (by decide) rfl ?_
            refine zr_goto X 8 dX3_greatestValue_78 (by decide) ?_
            refine Wx.weak (lo' := [some (.ref (ad (b + 6, 0))), some (jI ((y + (τ (b + 6, 3) i)) - (τ (b + 6, 3) i))), some (jI (i + 1))]) ⟨rfl, rfl, rfl, trivial⟩ ?_
            exact ih_8 _ _ ⟨⟨by omega, by omega⟩, by rw [sm_succ hi0.1, ← hy]; unfold vaF; (first | rw [if_pos f_32] | rw [if_neg t_32]); (first | rw [if_pos f_60] | rw [if_neg t_60]); omega⟩ (by omega)
  refine Wx.weak (lo' := [some (.ref (ad (b + 6, 0))), some (jI 0), some (jI 0)]) ⟨rfl, rfl, rfl, trivial⟩ ?_
  exact loop_8 _ _ _ ⟨⟨by omega, by omega⟩, rfl⟩ (Nat.lt_succ_self _)

set_option maxHeartbeats 4000000 in
set_option maxRecDepth 100000 in
theorem c_X3_smallestMask (l : Launch) (D : va_G) (cs : Nat → ClassId) (ad : Ix → Nat) (hap : Apart idsF ad) {b : Nat} (hb : b < 2) {σ : Mem} (h : mfOk σ b) (hE : endsYes σ b) (hc : cut8 σ b) : CI l D cs idsF ad yX3_smallestMask cX3_smallestMask 1 .int 5 [(.ref (ad (b + 6, 0)))] σ (fun z τ => stP σ τ b ∧ rcP τ b (σ (b + 6, 8) 0) z) := by
  refine CI.of RX3 hap idsF_nd (by decide) rfl (Nat.le_of_ble_eq_true rfl) ?_
  intro pg ev s0 mi av bl mt cd X K hr
  refine zr_aloadn X dX3_smallestMask_0 rfl ?_
  refine zr_callVV X K (q := (RX3, TX3, 6)) (st := []) (c_X3_settle l D cs ad hap hb (σ := σ) h hE hc) ⟨tw_410, tw_412, tp_19, tw_3, tw_413⟩ dc_X3_settle (mB hb (by decide)) rfl rfl rfl rfl rfl (Nat.le_of_ble_eq_true rfl) (by decide) dX3_smallestMask_1 ?_
  intro τ hst
  refine zr_aloadn X dX3_smallestMask_4 rfl ?_
  refine zr_get X K (C := RX3) (T := TX3) (N := 6) (k := 1) (mB hb (by decide)) rfl rfl ti_3 (by decide) rfl tw_123 rfl dX3_smallestMask_5 ?_
  refine zr_aloadn X dX3_smallestMask_8 rfl ?_
  refine zr_get X K (C := RX3) (T := TX3) (N := 6) (k := 3) (mB hb (by decide)) rfl rfl ti_3 (by decide) rfl tw_127 rfl dX3_smallestMask_9 ?_
  refine zr_callNI X K (q := (RX1, TX1, 3)) (st := []) (c_X1_reachableFrom l D cs ad hap hb (σ := τ) hst.1.1.1 hst.1.1.2.2 (x := τ (b + 6, 8) 0) (hst.2.2.eye (k := hE)).1) ⟨tn_483, tw_485, tp_28, tw_4, tw_486⟩ dc_X1_reachableFrom (mB hb (by decide)) rfl rfl rfl rfl rfl (Nat.le_of_ble_eq_true rfl) (by decide) dX3_smallestMask_12 ?_
  intro z τ_ hp_
  obtain ⟨hτ_, hz⟩ := hp_
  subst τ_
  rw [hst.2.2.own 8] at hz
  refine zr_iret X hr dX3_smallestMask_15 ?_
  exact ⟨hst, hz⟩

set_option maxHeartbeats 4000000 in
set_option maxRecDepth 100000 in
theorem c_X3_greatestMask (l : Launch) (D : va_G) (cs : Nat → ClassId) (ad : Ix → Nat) (hap : Apart idsF ad) {b : Nat} (hb : b < 2) {σ : Mem} (h : mfOk σ b) (hE : endsYes σ b) (hc : cut8 σ b) : CI l D cs idsF ad yX3_greatestMask cX3_greatestMask 3 .int 5 [(.ref (ad (b + 6, 0)))] σ (fun z τ => stP σ τ b ∧ gmP τ b (σ (b + 6, 9) 0) (σ (0, 0) 0) z) := by
  refine CI.of RX3 hap idsF_nd (by decide) rfl (Nat.le_of_ble_eq_true rfl) ?_
  intro pg ev s0 mi av bl mt cd X K hr
  refine zr_aloadn X dX3_greatestMask_0 rfl ?_
  refine zr_callVV X K (q := (RX3, TX3, 6)) (st := []) (c_X3_settle l D cs ad hap hb (σ := σ) h hE hc) ⟨tw_410, tw_412, tp_19, tw_3, tw_413⟩ dc_X3_settle (mB hb (by decide)) rfl rfl rfl rfl rfl (Nat.le_of_ble_eq_true rfl) (by decide) dX3_greatestMask_1 ?_
  intro τ hst
  have hN := hst.1.1.1
  have hn2 := hN.1
  have hF := hst.1.1.2.2
  have hEτ := hst.2.2.eye (k := hE)
  have hE1 := hEτ.2.1
  refine zr_iconst X dX3_greatestMask_4 ?_
  refine zr_istoren X dX3_greatestMask_5 (by decide) rfl ?_
  refine zr_iconst X dX3_greatestMask_6 ?_
  refine zr_istoren X dX3_greatestMask_7 (by decide) rfl ?_
  have loop_8 : ∀ (n_8 : Nat) (y : Int) (k : Int), ((0 ≤ k ∧ k ≤ τ (0, 0) 0) ∧ gmP τ b (τ (b + 6, 9) 0) k y) → (τ (0, 0) 0 - k).toNat < n_8 → Wx pg l ev (rmm 5 0 0) s0 mi av bl mt cd D cs idsF ad (Rg idsF ad) s0.heap 3 (MQ bl (qI D cs idsF ad ((fun z τ => stP σ τ b ∧ gmP τ b (σ (b + 6, 9) 0) (σ (0, 0) 0) z))) av s0 0 0 (Rg idsF ad)) 0 0 τ 8 [some (.ref (ad (b + 6, 0))), some (jI y), some (jI k)] [] := by
    intro n_8
    induction n_8 with
    | zero => exact fun y k hinv hn => absurd hn (Nat.not_lt_zero _)
    | succ n_8 ih_8 =>
      intro y k hI_8 hn_8
      have hk0 := hI_8.1
      refine zr_iloadn X dX3_greatestMask_8 rfl ?_
      refine zr_aloadn X dX3_greatestMask_9 rfl ?_
      refine zr_get X K (C := RX3) (T := TX3) (N := 6) (k := 0) (mB hb (by decide)) rfl rfl ti_3 (by decide) rfl tw_122 rfl dX3_greatestMask_10 ?_
      refine zr_getN X K (C := RX4) (T := TX4) (N := 6) (k := 0) mF_0_0 rfl rfl ti_4 (by decide) rfl tn_37 rfl dX3_greatestMask_13 ?_
      refine zr_icmp_ge X 49 dX3_greatestMask_16 (by decide) ⟨by omega, by omega⟩ ⟨by omega, by omega⟩ (fun t_16 => ?_) (fun f_16 => ?_)
      · refine zr_iloadn X dX3_greatestMask_49 rfl ?_
        refine zr_iret X hr dX3_greatestMask_50 ?_
        have := hI_8.2
        rw [show k = τ (0, 0) 0 by omega, hst.2.2.own 9, hst.2.2.of 0 0] at this
        exact ⟨hst, this⟩
      · refine zr_aloadn X dX3_greatestMask_19 rfl ?_
        refine zr_get X K (C := RX3) (T := TX3) (N := 6) (k := 1) (mB hb (by decide)) rfl rfl ti_3 (by decide) rfl tw_123 rfl dX3_greatestMask_20 ?_
        refine zr_iloadn X dX3_greatestMask_23 rfl ?_
        refine zr_callNI X K (q := (RX1, TX1, 3)) (st := []) (c_X1_reachableFrom l D cs ad hap hb (σ := τ) hN hF (x := k) ⟨by omega, by omega⟩) ⟨tn_483, tw_485, tp_28, tw_4, tw_486⟩ dc_X1_reachableFrom (mB hb (by decide)) rfl rfl rfl rfl rfl (Nat.le_of_ble_eq_true rfl) (by decide) dX3_greatestMask_24 ?_
        intro q τ_ hp_
        obtain ⟨hτ_, hq⟩ := hp_
        subst τ_
        refine zr_aloadn X dX3_greatestMask_27 rfl ?_
        refine zr_get X K (C := RX3) (T := TX3) (N := 6) (k := 4) (mB hb (by decide)) rfl rfl ti_3 (by decide) rfl tw_129 rfl dX3_greatestMask_28 ?_
        refine zr_callSNI X K (st := []) (c_X6_contains l D cs ad hap (m := q) (v := τ (b + 6, 9) 0) ⟨hq.1.1, by have := hq.1.2; omega⟩ ⟨by omega, by omega⟩) ⟨tn_500, tw_467, tw_1, tw_468⟩ dc_X6_contains rfl rfl (Nat.le_of_ble_eq_true rfl) (by decide) dX3_greatestMask_31 ?_
        intro z_ τ_ hp_
        obtain ⟨hτ_, hz_⟩ := hp_
        subst τ_
        subst z_
        refine zr_if_ne X 43 dX3_greatestMask_34 (by decide) ite01 (fun t_34 => ?_) (fun f_34 => ?_)
        · refine zr_iinc X dX3_greatestMask_43 rfl (by decide) rfl ?_
          refine zr_goto X 8 dX3_greatestMask_46 (by decide) ?_
          refine Wx.weak (lo' := [some (.ref (ad (b + 6, 0))), some (jI y), some (jI (k + 1))]) ⟨rfl, rfl, rfl, trivial⟩ ?_
          exact ih_8 _ _ ⟨⟨by omega, by omega⟩, gm_no hE1.1 hI_8.2 hq (ite1 t_34)⟩ (by omega)
        · refine zr_iloadn X dX3_greatestMask_37 rfl ?_
          refine zr_iconst X dX3_greatestMask_38 ?_
          refine zr_iloadn X dX3_greatestMask_39 rfl ?_
          refine zr_ishl X dX3_greatestMask_40 (zb_shl (by omega) (by omega)) ?_
          refine zr_ior X dX3_greatestMask_41 (zb_or hI_8.2.1.1 (pI_rg (by omega)).1) ?_
          refine zr_istoren X dX3_greatestMask_42 (by decide) rfl ?_
          refine zr_iinc X dX3_greatestMask_43 rfl (by decide) rfl ?_
          refine zr_goto X 8 dX3_greatestMask_46 (by decide) ?_
          refine Wx.weak (lo' := [some (.ref (ad (b + 6, 0))), some (jI (oI y (pI k))), some (jI (k + 1))]) ⟨rfl, rfl, rfl, trivial⟩ ?_
          exact ih_8 _ _ ⟨⟨by omega, by omega⟩, gm_yes hE1.1 ⟨hk0.1, by omega⟩ hI_8.2 hq (ite0 f_34)⟩ (by omega)
  refine Wx.weak (lo' := [some (.ref (ad (b + 6, 0))), some (jI 0), some (jI 0)]) ⟨rfl, rfl, rfl, trivial⟩ ?_
  exact loop_8 _ _ _ ⟨⟨by omega, by omega⟩, gm_0⟩ (Nat.lt_succ_self _)

/-- other ends -/
def ceP (σ τ : Mem) (b : Nat) (s t z : Int) : Prop := mfOk τ b ∧ (∀ g k : Nat, (g ≠ b + 6 ∨ k ∉ [3, 8, 9, 10]) → τ (g, k) = σ (g, k)) ∧ (τ (b + 6, 8) 0 = s ∧ τ (b + 6, 9) 0 = t) ∧ ((z = 0 ∧ σ (b + 6, 8) 0 = s ∧ σ (b + 6, 9) 0 = t ∧ τ = σ) ∨ (z = 1 ∧ ¬ (σ (b + 6, 8) 0 = s ∧ σ (b + 6, 9) 0 = t)))
theorem ce_new {σ σ1 σ2 σ3 τ : Mem} {b : Nat} {s t : Int} (h : mfOk σ b) (hst : (s = -1 ∧ t = -1) ∨ ((0 ≤ s ∧ s < σ (0, 0) 0) ∧ (0 ≤ t ∧ t < σ (0, 0) 0) ∧ s ≠ t)) (e1 : mset σ (b + 6, 8) 0 s = σ1) (e2 : mset σ1 (b + 6, 9) 0 t = σ2) (e3 : mset σ2 (b + 6, 10) 0 0 = σ3) (e4 : τ = mfill σ3 (b + 6, 3) 80 0) (hn : ¬ (σ (b + 6, 8) 0 = s ∧ σ (b + 6, 9) 0 = t)) : ceP σ τ b s t 1 := by
  have f1 : Fr b [8] σ σ1 := by rw [← e1]; exact Fr.set (by decide)
  have f2 : Fr b [9] σ1 σ2 := by rw [← e2]; exact Fr.set (by decide)
  have f3 : Fr b [10] σ2 σ3 := by rw [← e3]; exact Fr.set (by decide)
  have f : Fr b [8, 9, 10] σ σ3 := ((f1.up (by decide)).tr (f2.up (by decide))).tr (f3.up (by decide))
  have g : ∀ g k : Nat, (g ≠ b + 6 ∨ k ≠ 3) → τ (g, k) = σ3 (g, k) := fun g k hq => by
    rw [e4]
    exact mfill_id (fun e => by
      cases e
      rcases hq with hq | hq
      · exact hq rfl
      · exact hq rfl)
  have go : ∀ g' k : Nat, g' < 6 → τ (g', k) = σ (g', k) := fun g' k hg => (g g' k (Or.inl (by omega))).trans (f.1 g' k (Or.inl (by omega)))
  have k3 : ∀ a, 0 ≤ a → a < 80 → τ (b + 6, 3) a = 0 := fun a a1 a2 => by rw [e4, mfill_in a1 a2]
  have k8 : τ (b + 6, 8) 0 = s := by rw [g _ _ (Or.inr (by decide)), f3.own 8, f2.own 8, ← e1, mset_same]
  have k9 : τ (b + 6, 9) 0 = t := by rw [g _ _ (Or.inr (by decide)), f3.own 9, ← e2, mset_same]
  have k10 : τ (b + 6, 10) 0 = 0 := by rw [g _ _ (Or.inr (by decide)), ← e3, mset_same]
  have k2 : τ (b + 6, 2) = σ (b + 6, 2) := (g _ _ (Or.inr (by decide))).trans (f.own 2)
  obtain ⟨⟨hN, hA, hF⟩, -, -, -, -, -, hz⟩ := h
  have hm := hN.2.1
  have hNτ : NetOk τ := by
    unfold NetOk at hN ⊢
    rw [go 0 0 (by decide), go 0 1 (by decide), go 0 2 (by decide), go 0 3 (by decide)]
    exact hN
  have hAτ : AdjOk τ := by
    unfold AdjOk at hA ⊢
    have e : ∀ v : Nat, τ (1, v) = σ (1, v) := fun v => go 1 v (by decide)
    simp only [go 0 0 (by decide), go 0 1 (by decide), go 0 2 (by decide), go 0 3 (by decide), go 0 4 (by decide), e]
    exact hA
  have hFτ : FlOk τ b := fun a a1 a2 => by
    rw [go 0 1 (by decide)] at a2
    rw [k3 a a1 (by omega), k2]
    have := hF a a1 a2
    omega
  refine ⟨⟨⟨hNτ, hAτ, hFτ⟩, ?_, ⟨0, Int.le_refl 0, fun X => ?_⟩, fun _ a a1 a2 => ?_, Or.inl k10, fun q => by omega, fun a a1 a2 => ?_⟩, fun g' k hq => ?_, ⟨k8, k9⟩, Or.inr ⟨rfl, hn⟩⟩
  · unfold endsNo endsYes
    rw [k8, k9, go 0 0 (by decide)]
    exact hst
  · rw [net_zero hNτ.2.1.1 (fun a a1 a2 => by rw [go 0 1 (by decide)] at a2; exact k3 a a1 (by omega)), ind_0, ind_0]
    rfl
  · rw [go 0 1 (by decide)] at a2
    exact k3 a a1 (by omega)
  · rw [go 0 1 (by decide)] at a1
    rw [k2, k3 a (by omega) a2]
    exact ⟨(hz a a1 a2).1, rfl⟩
  · refine (g g' k (hq.elim Or.inl (fun q => Or.inr (fun e => q (by rw [e]; decide))))).trans (f.1 g' k (hq.elim Or.inl (fun q => Or.inr (fun e => q (by simp at e; rcases e with e | e | e <;> rw [e] <;> decide)))))

set_option maxHeartbeats 4000000 in
set_option maxRecDepth 100000 in
theorem c_X3_chooseEnds (l : Launch) (D : va_G) (cs : Nat → ClassId) (ad : Ix → Nat) (hap : Apart idsF ad) {b : Nat} (hb : b < 2) {σ : Mem} (h : mfOk σ b) {s t : Int} (hst : (s = -1 ∧ t = -1) ∨ ((0 ≤ s ∧ s < σ (0, 0) 0) ∧ (0 ≤ t ∧ t < σ (0, 0) 0) ∧ s ≠ t)) : CI l D cs idsF ad yX3_chooseEnds cX3_chooseEnds 3 .boolean 1 [(.ref (ad (b + 6, 0))), (jI s), (jI t)] σ (fun z τ => ceP σ τ b s t z) := by
  refine CI.of RX3 hap idsF_nd (by decide) rfl (Nat.le_of_ble_eq_true rfl) ?_
  intro pg ev s0 mi av bl mt cd X K hr
  have hN := h.1.1
  have hn := hN.1
  have hg := ends_rg hN h.2.1
  refine zr_aloadn X dX3_chooseEnds_0 rfl ?_
  refine zr_get X K (C := RX3) (T := TX3) (N := 6) (k := 3) (mB hb (by decide)) rfl rfl ti_3 (by decide) rfl tw_127 rfl dX3_chooseEnds_1 ?_
  refine zr_iloadn X dX3_chooseEnds_4 rfl ?_
  refine zr_icmp_ne X 18 dX3_chooseEnds_5 (by decide) ⟨by omega, by omega⟩ ⟨by omega, by omega⟩ (fun t_5 => ?_) (fun f_5 => ?_)
  · refine zr_aloadn X dX3_chooseEnds_18 rfl ?_
    refine zr_iloadn X dX3_chooseEnds_19 rfl ?_
    refine zr_put X K (q := (b + 6, 8)) (C := RX3) (T := TX3) (ty0 := tyX3) (N := 6) (k := 3) (mB hb (by decide)) (fun _ => rfl) (by simp [mset]) rfl rfl ti_3 tyX3_ok nmX3 (by decide) rfl tw_127 rfl rfl rfl (Nat.le_of_ble_eq_true rfl) dX3_chooseEnds_20 ?_
    generalize hm_σ1 : mset σ (b + 6, 8) 0 s = σ1
    refine zr_aloadn X dX3_chooseEnds_23 rfl ?_
    refine zr_iloadn X dX3_chooseEnds_24 rfl ?_
    refine zr_put X K (q := (b + 6, 9)) (C := RX3) (T := TX3) (ty0 := tyX3) (N := 6) (k := 4) (mB hb (by decide)) (fun _ => rfl) (by simp [mset]) rfl rfl ti_3 tyX3_ok nmX3 (by decide) rfl tw_129 rfl rfl rfl (Nat.le_of_ble_eq_true rfl) dX3_chooseEnds_25 ?_
    generalize hm_σ2 : mset σ1 (b + 6, 9) 0 t = σ2
    refine zr_aloadn X dX3_chooseEnds_28 rfl ?_
    refine zr_iconst X dX3_chooseEnds_29 ?_
    refine zr_put X K (q := (b + 6, 10)) (C := RX3) (T := TX3) (ty0 := tyX3) (N := 6) (k := 5) (mB hb (by decide)) (fun _ => rfl) (by simp [mset]) rfl rfl ti_3 tyX3_ok nmX3 (by decide) rfl tw_131 rfl rfl rfl (Nat.le_of_ble_eq_true rfl) dX3_chooseEnds_30 ?_
    generalize hm_σ3 : mset σ2 (b + 6, 10) 0 0 = σ3
    refine zr_aloadn X dX3_chooseEnds_33 rfl ?_
    refine zr_get X K (C := RX3) (T := TX3) (N := 6) (k := 1) (mB hb (by decide)) rfl rfl ti_3 (by decide) rfl tw_123 rfl dX3_chooseEnds_34 ?_
    refine zr_getN X K (C := RX1) (T := TX1) (N := 3) (k := 2) (mB hb (by decide)) rfl rfl ti_1 (by decide) rfl tn_85 rfl dX3_chooseEnds_37 ?_
    refine zr_iconst X dX3_chooseEnds_40 ?_
    refine zr_callSV X K (st := []) (c_J7_fill l D cs ad hap (σ := σ3) (g := b + 6) (k := 3) (n := 80) (x := 0) (mB hb (by decide)) (fun _ => rfl) rfl (by decide)) ⟨tw_377, tw_308, tw_14, tw_309⟩ dc_J7_fill_53178 rfl rfl (Nat.le_of_ble_eq_true rfl) (by decide) dX3_chooseEnds_41 ?_
    intro τ hτ
    refine zr_iconst X dX3_chooseEnds_44 ?_
    refine zr_zret X hr dX3_chooseEnds_45 (by omega) ?_
    exact ce_new h hst hm_σ1 hm_σ2 hm_σ3 hτ (by omega)
  · refine zr_aloadn X dX3_chooseEnds_8 rfl ?_
    refine zr_get X K (C := RX3) (T := TX3) (N := 6) (k := 4) (mB hb (by decide)) rfl rfl ti_3 (by decide) rfl tw_129 rfl dX3_chooseEnds_9 ?_
    refine zr_iloadn X dX3_chooseEnds_12 rfl ?_
    refine zr_icmp_ne X 18 dX3_chooseEnds_13 (by decide) ⟨by omega, by omega⟩ ⟨by omega, by omega⟩ (fun t_13 => ?_) (fun f_13 => ?_)
    · refine zr_aloadn X dX3_chooseEnds_18 rfl ?_
      refine zr_iloadn X dX3_chooseEnds_19 rfl ?_
      refine zr_put X K (q := (b + 6, 8)) (C := RX3) (T := TX3) (ty0 := tyX3) (N := 6) (k := 3) (mB hb (by decide)) (fun _ => rfl) (by simp [mset]) rfl rfl ti_3 tyX3_ok nmX3 (by decide) rfl tw_127 rfl rfl rfl (Nat.le_of_ble_eq_true rfl) dX3_chooseEnds_20 ?_
      generalize hm_σ4 : mset σ (b + 6, 8) 0 s = σ4
      refine zr_aloadn X dX3_chooseEnds_23 rfl ?_
      refine zr_iloadn X dX3_chooseEnds_24 rfl ?_
      refine zr_put X K (q := (b + 6, 9)) (C := RX3) (T := TX3) (ty0 := tyX3) (N := 6) (k := 4) (mB hb (by decide)) (fun _ => rfl) (by simp [mset]) rfl rfl ti_3 tyX3_ok nmX3 (by decide) rfl tw_129 rfl rfl rfl (Nat.le_of_ble_eq_true rfl) dX3_chooseEnds_25 ?_
      generalize hm_σ5 : mset σ4 (b + 6, 9) 0 t = σ5
      refine zr_aloadn X dX3_chooseEnds_28 rfl ?_
      refine zr_iconst X dX3_chooseEnds_29 ?_
      refine zr_put X K (q := (b + 6, 10)) (C := RX3) (T := TX3) (ty0 := tyX3) (N := 6) (k := 5) (mB hb (by decide)) (fun _ => rfl) (by simp [mset]) rfl rfl ti_3 tyX3_ok nmX3 (by decide) rfl tw_131 rfl rfl rfl (Nat.le_of_ble_eq_true rfl) dX3_chooseEnds_30 ?_
      generalize hm_σ6 : mset σ5 (b + 6, 10) 0 0 = σ6
      refine zr_aloadn X dX3_chooseEnds_33 rfl ?_
      refine zr_get X K (C := RX3) (T := TX3) (N := 6) (k := 1) (mB hb (by decide)) rfl rfl ti_3 (by decide) rfl tw_123 rfl dX3_chooseEnds_34 ?_
      refine zr_getN X K (C := RX1) (T := TX1) (N := 3) (k := 2) (mB hb (by decide)) rfl rfl ti_1 (by decide) rfl tn_85 rfl dX3_chooseEnds_37 ?_
      refine zr_iconst X dX3_chooseEnds_40 ?_
      refine zr_callSV X K (st := []) (c_J7_fill l D cs ad hap (σ := σ6) (g := b + 6) (k := 3) (n := 80) (x := 0) (mB hb (by decide)) (fun _ => rfl) rfl (by decide)) ⟨tw_377, tw_308, tw_14, tw_309⟩ dc_J7_fill_53178 rfl rfl (Nat.le_of_ble_eq_true rfl) (by decide) dX3_chooseEnds_41 ?_
      intro τ hτ
      refine zr_iconst X dX3_chooseEnds_44 ?_
      refine zr_zret X hr dX3_chooseEnds_45 (by omega) ?_
      exact ce_new h hst hm_σ4 hm_σ5 hm_σ6 hτ (by omega)
    · refine zr_iconst X dX3_chooseEnds_16 ?_
      refine zr_zret X hr dX3_chooseEnds_17 (by omega) ?_
      exact ⟨h, fun _ _ _ => rfl, ⟨by omega, by omega⟩, Or.inl ⟨rfl, by omega, by omega, rfl⟩⟩

set_option maxHeartbeats 4000000 in
set_option maxRecDepth 100000 in
theorem c_X1_block (l : Launch) (D : va_G) (cs : Nat → ClassId) (ad : Ix → Nat) (hap : Apart idsF ad) {b : Nat} (hb : b < 2) {σ : Mem} {a : Int} (ha : 0 ≤ a ∧ a < 80) : CV l D cs idsF ad yX1_block cX1_block 2 0 [(.ref (ad (b + 6, 1))), (jI a)] σ (fun τ => τ = mset (mset σ (b + 6, 2) a 0) (b + 6, 3) a 0) := by
  refine CV.of RX1 hap idsF_nd (by decide) rfl (Nat.le_of_ble_eq_true rfl) ?_
  intro pg ev s0 mi av bl mt cd X K hr
  refine zr_aloadn X dX1_block_0 rfl ?_
  refine zr_get X K (C := RX1) (T := TX1) (N := 3) (k := 1) (mB hb (by decide)) rfl rfl ti_1 (by decide) rfl tw_81 rfl dX1_block_1 ?_
  refine zr_iloadn X dX1_block_4 rfl ?_
  refine zr_iconst X dX1_block_5 ?_
  refine zr_iast X K (n := 80) (mB hb (by decide)) (fun _ => rfl) rfl (by decide) (by omega) dX1_block_6 ?_
  refine zr_aloadn X dX1_block_7 rfl ?_
  refine zr_get X K (C := RX1) (T := TX1) (N := 3) (k := 2) (mB hb (by decide)) rfl rfl ti_1 (by decide) rfl tw_84 rfl dX1_block_8 ?_
  refine zr_iloadn X dX1_block_11 rfl ?_
  refine zr_iconst X dX1_block_12 ?_
  refine zr_iast X K (n := 80) (mB hb (by decide)) (fun _ => rfl) rfl (by decide) (by omega) dX1_block_13 ?_
  refine zr_vret X hr dX1_block_14 ?_
  rfl

set_option maxHeartbeats 4000000 in
set_option maxRecDepth 100000 in
theorem c_X1_copy (l : Launch) (D : va_G) (cs : Nat → ClassId) (ad : Ix → Nat) (hap : Apart idsF ad) {σ : Mem} : CV l D cs idsF ad yX1_copy cX1_copy 2 1 [(.ref (ad (7, 1))), (.ref (ad (6, 1)))] σ (fun τ => τ = mcopy (mcopy σ (6, 2) (7, 2) 80) (6, 3) (7, 3) 80) := by
  refine CV.of RX1 hap idsF_nd (by decide) rfl (Nat.le_of_ble_eq_true rfl) ?_
  intro pg ev s0 mi av bl mt cd X K hr
  refine zr_aloadn X dX1_copy_0 rfl ?_
  refine zr_get X K (v := (.ref (ad (6, 2)))) (C := RX1) (T := TX1) (N := 3) (k := 1) mF_6_1 rfl rfl ti_1 (by decide) rfl tw_81 rfl dX1_copy_1 ?_
  refine zr_iconst X dX1_copy_4 ?_
  refine zr_aloadn X dX1_copy_5 rfl ?_
  refine zr_get X K (v := (.ref (ad (7, 2)))) (C := RX1) (T := TX1) (N := 3) (k := 1) mF_7_1 rfl rfl ti_1 (by decide) rfl tw_81 rfl dX1_copy_6 ?_
  refine zr_iconst X dX1_copy_9 ?_
  refine zr_bipush X dX1_copy_10 rfl ?_
  refine zr_copy X K (n0 := 80) (n1 := 80) mF_6_2 mF_7_2 rfl (fun _ => rfl) rfl (by decide) (by decide) (by decide) tw_427 tw_429 tw_428 tw_16 ⟨Nat.le_of_ble_eq_true rfl, Nat.le_of_ble_eq_true rfl⟩ dX1_copy_12 ?_
  refine zr_aloadn X dX1_copy_15 rfl ?_
  refine zr_get X K (v := (.ref (ad (6, 3)))) (C := RX1) (T := TX1) (N := 3) (k := 2) mF_6_1 rfl rfl ti_1 (by decide) rfl tw_84 rfl dX1_copy_16 ?_
  refine zr_iconst X dX1_copy_19 ?_
  refine zr_aloadn X dX1_copy_20 rfl ?_
  refine zr_get X K (v := (.ref (ad (7, 3)))) (C := RX1) (T := TX1) (N := 3) (k := 2) mF_7_1 rfl rfl ti_1 (by decide) rfl tw_84 rfl dX1_copy_21 ?_
  refine zr_iconst X dX1_copy_24 ?_
  refine zr_bipush X dX1_copy_25 rfl ?_
  refine zr_copy X K (n0 := 80) (n1 := 80) mF_6_3 mF_7_3 rfl (fun _ => rfl) rfl (by decide) (by decide) (by decide) tw_427 tw_429 tw_428 tw_16 ⟨Nat.le_of_ble_eq_true rfl, Nat.le_of_ble_eq_true rfl⟩ dX1_copy_27 ?_
  refine zr_vret X hr dX1_copy_30 ?_
  rfl
