/-! THE ROUTER -/

theorem dc_X5_findBehind : dcl yX5_findBehind 2 := ⟨by decide, by decide, by decide +kernel⟩
theorem dc_X5_setHeights : dcl yX5_setHeights 0 := ⟨by decide, by decide, by decide +kernel⟩
theorem dc_X5_isActive : dcl yX5_isActive 1 := ⟨by decide, by decide, by decide +kernel⟩
theorem dc_X5_pushOut : dcl yX5_pushOut 1 := ⟨by decide, by decide, by decide +kernel⟩
theorem dc_X5_lift : dcl yX5_lift 1 := ⟨by decide, by decide, by decide +kernel⟩
theorem dc_X5_sweepOnce : dcl yX5_sweepOnce 0 := ⟨by decide, by decide, by decide +kernel⟩
theorem dc_X5_route : dcl yX5_route 3 := ⟨by decide, by decide, by decide +kernel⟩

set_option maxHeartbeats 4000000 in
set_option maxRecDepth 100000 in
theorem c_J7_fill (l : Launch) (D : va_G) (cs : Nat → ClassId) (ad : Ix → Nat) (hap : Apart idsF ad) {σ : Mem} {g k n : Nat} {x : Int} (hi : ((g, k) : Ix) ∈ idsF) (he : ∀ τ, enc cs ad τ (g, k) = arI cs τ (g, k) n) (ho : owner (g, k) = (g, k)) (hn : n < 2147483648) : CV l D cs idsF ad yJ7_fill_53178 cJ7_fill_53178 4 0 [(.ref (ad (g, k))), (jI x)] σ (fun τ => τ = mfill σ (g, k) n x) := by
  refine CV.of RJ7 hap idsF_nd (by decide) rfl (Nat.le_of_ble_eq_true rfl) ?_
  intro pg ev s0 mi av bl mt cd X K hr
  refine zr_iconst X dJ7_fill_53178_0 ?_
  refine zr_istoren X dJ7_fill_53178_1 (by decide) rfl ?_
  refine zr_aloadn X dJ7_fill_53178_2 rfl ?_
  refine zr_alen X K (n := n) hi (he _) dJ7_fill_53178_3 ?_
  refine zr_istoren X dJ7_fill_53178_4 (by decide) rfl ?_
  have loop_5 : ∀ (n_5 : Nat) (i : Int) (τ : Mem), ((0 ≤ i ∧ i ≤ n) ∧ τ = mfill σ (g, k) i x) → ((n : Int) - i).toNat < n_5 → Wx pg l ev (rmm 0 0 0) s0 mi av bl mt cd D cs idsF ad (Rg idsF ad) s0.heap 4 (MQ bl (qV D cs idsF ad ((fun τ => τ = mfill σ (g, k) n x))) av s0 0 0 (Rg idsF ad)) 0 0 τ 5 [some (.ref (ad (g, k))), some (jI x), some (jI i), some (jI ((n : Int)))] [] := by
    intro n_5
    induction n_5 with
    | zero => exact fun i τ hinv hn => absurd hn (Nat.not_lt_zero _)
    | succ n_5 ih_5 =>
      intro i τ hI_5 hn_5
      have hi0 := hI_5.1
      refine zr_iloadn X dJ7_fill_53178_5 rfl ?_
      refine zr_iloadn X dJ7_fill_53178_6 rfl ?_
      refine zr_icmp_ge X 20 dJ7_fill_53178_7 (by decide) ⟨by omega, by omega⟩ ⟨by omega, by omega⟩ (fun t_7 => ?_) (fun f_7 => ?_)
      · refine zr_vret X hr dJ7_fill_53178_20 ?_
        rw [hI_5.2, show i = n by omega]
      · refine zr_aloadn X dJ7_fill_53178_10 rfl ?_
        refine zr_iloadn X dJ7_fill_53178_11 rfl ?_
        refine zr_iloadn X dJ7_fill_53178_12 rfl ?_
        refine zr_iast X K (n := n) hi he ho hn (by omega) dJ7_fill_53178_13 ?_
        refine zr_iinc X dJ7_fill_53178_14 rfl (by decide) rfl ?_
        refine zr_goto X 5 dJ7_fill_53178_17 (by decide) ?_
        refine Wx.weak (lo' := [some (.ref (ad (g, k))), some (jI x), some (jI (i + 1)), some (jI ((n : Int)))]) ⟨rfl, rfl, rfl, rfl, trivial⟩ ?_
        exact ih_5 _ _ ⟨⟨by omega, by omega⟩, by rw [hI_5.2]; exact mfill_s hI_5.1.1⟩ (by omega)
  refine Wx.weak (lo' := [some (.ref (ad (g, k))), some (jI x), some (jI 0), some (jI ((n : Int)))]) ⟨rfl, rfl, rfl, rfl, trivial⟩ ?_
  exact loop_5 _ 0 σ ⟨⟨by omega, by omega⟩, mfill_0.symm⟩ (Nat.lt_succ_self _)

set_option maxHeartbeats 4000000 in
set_option maxRecDepth 100000 in
theorem c_X5_isActive (l : Launch) (D : va_G) (cs : Nat → ClassId) (ad : Ix → Nat) (hap : Apart idsF ad) {b : Nat} (hb : b < 2) {σ : Mem} {N0 : (Int → Bool) → Int} {s t B : Int} (h : pfI σ b N0 s t B) {v : Int} (hv : 0 ≤ v ∧ v < σ (0, 0) 0) : CI l D cs idsF ad yX5_isActive cX5_isActive 2 .boolean 0 [(.ref (ad (b + 6, 4))), (jI v)] σ (fun z τ => τ = σ ∧ ((z = 1 ∧ act σ b s t v) ∨ (z = 0 ∧ ¬ act σ b s t v))) := by
  refine CI.of RX5 hap idsF_nd (by decide) rfl (Nat.le_of_ble_eq_true rfl) ?_
  intro pg ev s0 mi av bl mt cd X K hr
  have hn := h.1.1.1
  have hx := pf_exc h hv
  have hg := pf_hgt h hv
  have he := pf_ends h
  refine zr_aloadn X dX5_isActive_0 rfl ?_
  refine zr_get X K (C := RX5) (T := TX5) (N := 7) (k := 2) (mB hb (by decide)) rfl rfl ti_5 (by decide) rfl tw_102 rfl dX5_isActive_1 ?_
  refine zr_iloadn X dX5_isActive_4 rfl ?_
  refine zr_iald X K (n := 24) (mB hb (by decide)) rfl (by decide) (by omega) dX5_isActive_5 ?_
  refine zr_if_le X 45 dX5_isActive_6 (by decide) ⟨by omega, by omega⟩ (fun t_6 => ?_) (fun f_6 => ?_)
  · refine zr_iconst X dX5_isActive_45 ?_
    refine zr_zret X hr dX5_isActive_46 (by omega) ?_
    refine ⟨rfl, ?_⟩
    unfold act
    rw [← he.1.1, ← he.1.2]
    exact Or.inr ⟨rfl, fun q => by omega⟩
  · refine zr_iloadn X dX5_isActive_9 rfl ?_
    refine zr_aloadn X dX5_isActive_10 rfl ?_
    refine zr_get X K (C := RX5) (T := TX5) (N := 7) (k := 6) (mB hb (by decide)) rfl rfl ti_5 (by decide) rfl tw_106 rfl dX5_isActive_11 ?_
    refine zr_icmp_eq X 45 dX5_isActive_14 (by decide) ⟨by omega, by omega⟩ ⟨by omega, by omega⟩ (fun t_14 => ?_) (fun f_14 => ?_)
    · refine zr_iconst X dX5_isActive_45 ?_
      refine zr_zret X hr dX5_isActive_46 (by omega) ?_
      refine ⟨rfl, ?_⟩
      unfold act
      rw [← he.1.1, ← he.1.2]
      exact Or.inr ⟨rfl, fun q => by omega⟩
    · refine zr_iloadn X dX5_isActive_17 rfl ?_
      refine zr_aloadn X dX5_isActive_18 rfl ?_
      refine zr_get X K (C := RX5) (T := TX5) (N := 7) (k := 5) (mB hb (by decide)) rfl rfl ti_5 (by decide) rfl tw_105 rfl dX5_isActive_19 ?_
      refine zr_icmp_ne X 41 dX5_isActive_22 (by decide) ⟨by omega, by omega⟩ ⟨by omega, by omega⟩ (fun t_22 => ?_) (fun f_22 => ?_)
      · refine zr_iconst X dX5_isActive_41 ?_
        refine zr_goto X 46 dX5_isActive_42 (by decide) ?_
        refine zr_zret X hr dX5_isActive_46 (by omega) ?_
        refine ⟨rfl, ?_⟩
        unfold act
        rw [← he.1.1, ← he.1.2]
        exact Or.inl ⟨rfl, by omega, by omega, by omega⟩
      · refine zr_aloadn X dX5_isActive_25 rfl ?_
        refine zr_get X K (C := RX5) (T := TX5) (N := 7) (k := 3) (mB hb (by decide)) rfl rfl ti_5 (by decide) rfl tw_103 rfl dX5_isActive_26 ?_
        refine zr_iloadn X dX5_isActive_29 rfl ?_
        refine zr_iald X K (n := 24) (mB hb (by decide)) rfl (by decide) (by omega) dX5_isActive_30 ?_
        refine zr_aloadn X dX5_isActive_31 rfl ?_
        refine zr_get X K (C := RX5) (T := TX5) (N := 7) (k := 0) (mB hb (by decide)) rfl rfl ti_5 (by decide) rfl tw_100 rfl dX5_isActive_32 ?_
        refine zr_getN X K (C := RX4) (T := TX4) (N := 6) (k := 0) mF_0_0 rfl rfl ti_4 (by decide) rfl tn_35 rfl dX5_isActive_35 ?_
        refine zr_icmp_ge X 45 dX5_isActive_38 (by decide) ⟨by omega, by omega⟩ ⟨by omega, by omega⟩ (fun t_38 => ?_) (fun f_38 => ?_)
        · refine zr_iconst X dX5_isActive_45 ?_
          refine zr_zret X hr dX5_isActive_46 (by omega) ?_
          refine ⟨rfl, ?_⟩
          unfold act
          rw [← he.1.1, ← he.1.2]
          exact Or.inr ⟨rfl, fun q => by omega⟩
        · refine zr_iconst X dX5_isActive_41 ?_
          refine zr_goto X 46 dX5_isActive_42 (by decide) ?_
          refine zr_zret X hr dX5_isActive_46 (by omega) ?_
          refine ⟨rfl, ?_⟩
          unfold act
          rw [← he.1.1, ← he.1.2]
          exact Or.inl ⟨rfl, by omega, by omega, by omega⟩

set_option maxHeartbeats 4000000 in
set_option maxRecDepth 100000 in
theorem c_X5_pushOut (l : Launch) (D : va_G) (cs : Nat → ClassId) (ad : Ix → Nat) (hap : Apart idsF ad) {b : Nat} (hb : b < 2) {σ : Mem} {N0 : (Int → Bool) → Int} {s t B : Int} (h : pfI σ b N0 s t B) {u : Int} (hu : 0 ≤ u ∧ u < σ (0, 0) 0) : CV l D cs idsF ad yX5_pushOut cX5_pushOut 6 1 [(.ref (ad (b + 6, 4))), (jI u)] σ (fun τ => poP σ τ b N0 s t B u) := by
  refine CV.of RX5 hap idsF_nd (by decide) rfl (Nat.le_of_ble_eq_true rfl) ?_
  intro pg ev s0 mi av bl mt cd X K hr
  have hn := h.1.1.1
  have hv24 : 0 ≤ u ∧ u < 24 := ⟨by omega, by omega⟩
  refine zr_iconst X dX5_pushOut_0 ?_
  refine zr_istoren X dX5_pushOut_1 (by decide) rfl ?_
  have loop_2 : ∀ (n_2 : Nat) (i : Int) (τ : Mem), ((0 ≤ i ∧ i ≤ τ (0, 4) u) ∧ poI σ τ b N0 s t B u i) → (τ (0, 4) u - i).toNat < n_2 → Wx pg l ev (rmm 1 0 0) s0 mi av bl mt cd D cs idsF ad (Rg idsF ad) s0.heap 6 (MQ bl (qV D cs idsF ad ((fun τ => poP σ τ b N0 s t B u))) av s0 0 0 (Rg idsF ad)) 0 0 τ 2 [some (.ref (ad (b + 6, 4))), some (jI u), some (jI i), none, none, none] [] := by
    intro n_2
    induction n_2 with
    | zero => exact fun i τ hinv hn => absurd hn (Nat.not_lt_zero _)
    | succ n_2 ih_2 =>
      intro i τ hI_2 hn_2
      have hi0 := hI_2.1
      have hP := hI_2.2.1
      have hN := (pf_net hP).1
      have hA := (pf_net hP).2.1
      have hF := (pf_net hP).2.2
      have hdg := hA.1 u hv24.1 hv24.2
      have hm := hN.2.1
      have hu2 : 0 ≤ u ∧ u < τ (0, 0) 0 := by rw [hI_2.2.2.1.of 0 0]; exact hu
      refine zr_iloadn X dX5_pushOut_2 rfl ?_
      refine zr_aloadn X dX5_pushOut_3 rfl ?_
      refine zr_get X K (C := RX5) (T := TX5) (N := 7) (k := 0) (mB hb (by decide)) rfl rfl ti_5 (by decide) rfl tw_100 rfl dX5_pushOut_4 ?_
      refine zr_getN X K (C := RX4) (T := TX4) (N := 6) (k := 4) mF_0_0 rfl rfl ti_4 (by decide) rfl tn_51 rfl dX5_pushOut_7 ?_
      refine zr_iloadn X dX5_pushOut_10 rfl ?_
      refine zr_iald X K (n := 24) mF_0_4 rfl (by decide) (by omega) dX5_pushOut_11 ?_
      refine zr_icmp_ge X 116 dX5_pushOut_12 (by decide) ⟨by omega, by omega⟩ ⟨by omega, by omega⟩ (fun t_12 => ?_) (fun f_12 => ?_)
      · refine zr_vret X hr dX5_pushOut_116 ?_
        exact poI_end hI_2.2 (by omega)
      · refine zr_aloadn X dX5_pushOut_15 rfl ?_
        refine zr_get X K (C := RX5) (T := TX5) (N := 7) (k := 0) (mB hb (by decide)) rfl rfl ti_5 (by decide) rfl tw_100 rfl dX5_pushOut_16 ?_
        refine zr_getN X K (C := RX4) (T := TX4) (N := 6) (k := 5) mF_0_0 rfl rfl ti_4 (by decide) rfl tn_53 rfl dX5_pushOut_19 ?_
        refine zr_iloadn X dX5_pushOut_22 rfl ?_
        refine zr_aald X K (n := 24) (f := fun v => ad (1, v)) mF_0_5 rfl (by decide) (by omega) dX5_pushOut_23 ?_
        refine zr_iloadn X dX5_pushOut_24 rfl ?_
        refine zr_iald X K (n := 80) (mR1 (by omega)) rfl (by decide) (by omega) dX5_pushOut_25 ?_
        generalize h_a : τ (1, (u).toNat) i = a
        have hai := hA.2.2.1 u i hv24.1 hv24.2 hi0.1 (by omega)
        rw [h_a] at hai
        have ha := hai.1
        have hua := hai.2
        refine zr_istoren X dX5_pushOut_26 (by decide) rfl ?_
        refine zr_aloadn X dX5_pushOut_27 rfl ?_
        refine zr_get X K (C := RX5) (T := TX5) (N := 7) (k := 0) (mB hb (by decide)) rfl rfl ti_5 (by decide) rfl tw_100 rfl dX5_pushOut_28 ?_
        refine zr_iloadn X dX5_pushOut_31 rfl ?_
        refine zr_iloadn X dX5_pushOut_32 rfl ?_
        refine zr_callNI X K (q := (RX4, TX4, 6)) (st := []) (c_X4_otherEnd l D cs ad hap (σ := τ) hN (a := a) (v := u) ha hv24) ⟨tn_314, tw_316, tp_7, tw_2, tw_317⟩ dc_X4_otherEnd mF_0_0 rfl rfl rfl rfl rfl (Nat.le_of_ble_eq_true rfl) (by decide) dX5_pushOut_33 ?_
        intro z_ τ_ hp_
        obtain ⟨hτ_, hz_⟩ := hp_
        subst τ_
        subst z_
        generalize h_w : otF τ a u = w
        refine zr_istore X dX5_pushOut_36 (by decide) rfl ?_
        have hw0 : 0 ≤ w ∧ w < τ (0, 0) 0 := by rw [← h_w]; exact (ends hN ha hua).2.1
        have g1 := pf_hgt hP hu2
        have g2 := pf_hgt hP hw0
        have hx := pf_exc hP hu2
        have hB := (pf_ends hP).2.2.2.2
        have hr := rmF_rg hF (v := u) ha
        have hnt := hN.1
        refine zr_aloadn X dX5_pushOut_38 rfl ?_
        refine zr_get X K (C := RX5) (T := TX5) (N := 7) (k := 3) (mB hb (by decide)) rfl rfl ti_5 (by decide) rfl tw_103 rfl dX5_pushOut_39 ?_
        refine zr_iloadn X dX5_pushOut_42 rfl ?_
        refine zr_iald X K (n := 24) (mB hb (by decide)) rfl (by decide) (by omega) dX5_pushOut_43 ?_
        refine zr_aloadn X dX5_pushOut_44 rfl ?_
        refine zr_get X K (C := RX5) (T := TX5) (N := 7) (k := 3) (mB hb (by decide)) rfl rfl ti_5 (by decide) rfl tw_103 rfl dX5_pushOut_45 ?_
        refine zr_iload X dX5_pushOut_48 rfl ?_
        refine zr_iald X K (n := 24) (mB hb (by decide)) rfl (by decide) (by omega) dX5_pushOut_50 ?_
        refine zr_iconst X dX5_pushOut_51 ?_
        refine zr_iadd X dX5_pushOut_52 ?_
        refine zr_icmp_ne X 110 dX5_pushOut_53 (by decide) ⟨by omega, by omega⟩ ⟨by omega, by omega⟩ (fun t_53 => ?_) (fun f_53 => ?_)
        · refine zr_iinc X dX5_pushOut_110 rfl (by decide) rfl ?_
          refine zr_goto X 2 dX5_pushOut_113 (by decide) ?_
          refine Wx.weak (lo' := [some (.ref (ad (b + 6, 4))), some (jI u), some (jI (i + 1)), none, none, none]) ⟨rfl, rfl, rfl, trivial⟩ ?_
          exact ih_2 _ _ ⟨⟨by omega, by omega⟩, poI_skip hI_2.2 (by rw [h_a, h_w]; exact t_53)⟩ (by omega)
        · refine zr_aloadn X dX5_pushOut_56 rfl ?_
          refine zr_get X K (C := RX5) (T := TX5) (N := 7) (k := 2) (mB hb (by decide)) rfl rfl ti_5 (by decide) rfl tw_102 rfl dX5_pushOut_57 ?_
          refine zr_iloadn X dX5_pushOut_60 rfl ?_
          refine zr_iald X K (n := 24) (mB hb (by decide)) rfl (by decide) (by omega) dX5_pushOut_61 ?_
          refine zr_aloadn X dX5_pushOut_62 rfl ?_
          refine zr_get X K (C := RX5) (T := TX5) (N := 7) (k := 1) (mB hb (by decide)) rfl rfl ti_5 (by decide) rfl tw_101 rfl dX5_pushOut_63 ?_
          refine zr_iloadn X dX5_pushOut_66 rfl ?_
          refine zr_iloadn X dX5_pushOut_67 rfl ?_
          refine zr_callNI X K (q := (RX1, TX1, 3)) (st := [(jI (τ (b + 6, 5) u))]) (c_X1_room l D cs ad hap hb (σ := τ) hN (a := a) (v := u) ha hv24) ⟨tn_318, tw_320, tp_8, tw_4, tw_321⟩ dc_X1_room (mB hb (by decide)) rfl rfl rfl rfl rfl (Nat.le_of_ble_eq_true rfl) (by decide) dX5_pushOut_68 ?_
          intro z_ τ_ hp_
          obtain ⟨hτ_, hz_⟩ := hp_
          subst τ_
          subst z_
          refine zr_min X tw_335 tw_336 tw_15 tw_337 ⟨Nat.le_of_ble_eq_true rfl, Nat.le_of_ble_eq_true rfl, Nat.le_of_ble_eq_true rfl, Nat.le_of_ble_eq_true rfl⟩ ⟨by omega, by omega⟩ ⟨by omega, by omega⟩ dX5_pushOut_71 (fun x h_x => ?_)
          refine zr_istore X dX5_pushOut_74 (by decide) rfl ?_
          refine zr_aloadn X dX5_pushOut_76 rfl ?_
          refine zr_get X K (C := RX5) (T := TX5) (N := 7) (k := 1) (mB hb (by decide)) rfl rfl ti_5 (by decide) rfl tw_101 rfl dX5_pushOut_77 ?_
          refine zr_iloadn X dX5_pushOut_80 rfl ?_
          refine zr_iloadn X dX5_pushOut_81 rfl ?_
          refine zr_iload X dX5_pushOut_82 rfl ?_
          refine zr_callNV X K (q := (RX1, TX1, 3)) (st := []) (c_X1_send l D cs ad hap hb (σ := τ) hN (a := a) (v := u) (x := x) ha hv24) ⟨tn_338, tw_340, tp_12, tw_4, tw_341⟩ dc_X1_send (mB hb (by decide)) rfl rfl rfl rfl rfl (Nat.le_of_ble_eq_true rfl) (by decide) dX5_pushOut_84 ?_
          intro τ1 hτ1
          refine zr_aloadn X dX5_pushOut_87 rfl ?_
          refine zr_get X K (C := RX5) (T := TX5) (N := 7) (k := 2) (mB hb (by decide)) rfl rfl ti_5 (by decide) rfl tw_102 rfl dX5_pushOut_88 ?_
          refine zr_iloadn X dX5_pushOut_91 rfl ?_
          refine zr_dup2 X dX5_pushOut_92 rfl rfl ?_
          refine zr_iald X K (n := 24) (mB hb (by decide)) rfl (by decide) (by omega) dX5_pushOut_93 ?_
          refine zr_iload X dX5_pushOut_94 rfl ?_
          refine zr_isub X dX5_pushOut_96 ?_
          refine zr_iast X K (n := 24) (mB hb (by decide)) (fun _ => rfl) rfl (by decide) (by omega) dX5_pushOut_97 ?_
          generalize hm_σ1 : mset τ1 (b + 6, 5) u ((τ1 (b + 6, 5) u) - x) = σ1
          refine zr_aloadn X dX5_pushOut_98 rfl ?_
          refine zr_get X K (C := RX5) (T := TX5) (N := 7) (k := 2) (mB hb (by decide)) rfl rfl ti_5 (by decide) rfl tw_102 rfl dX5_pushOut_99 ?_
          refine zr_iload X dX5_pushOut_102 rfl ?_
          refine zr_dup2 X dX5_pushOut_104 rfl rfl ?_
          refine zr_iald X K (n := 24) (mB hb (by decide)) rfl (by decide) (by omega) dX5_pushOut_105 ?_
          refine zr_iload X dX5_pushOut_106 rfl ?_
          refine zr_iadd X dX5_pushOut_108 ?_
          refine zr_iast X K (n := 24) (mB hb (by decide)) (fun _ => rfl) rfl (by decide) (by omega) dX5_pushOut_109 ?_
          generalize hm_σ2 : mset σ1 (b + 6, 5) w ((σ1 (b + 6, 5) w) + x) = σ2
          refine zr_iinc X dX5_pushOut_110 rfl (by decide) rfl ?_
          refine zr_goto X 2 dX5_pushOut_113 (by decide) ?_
          refine Wx.weak (lo' := [some (.ref (ad (b + 6, 4))), some (jI u), some (jI (i + 1)), none, none, none]) ⟨rfl, rfl, rfl, trivial⟩ ?_
          have hps := psP_of hτ1 hm_σ1 hm_σ2 h_w (by rw [← h_w]; exact (ends hN ha hua).2.2) ha.2
          rw [← h_a] at hps
          have e4 : σ2 (0, 4) = τ (0, 4) := hps.1.of 0 4
          exact ih_2 _ _ ⟨⟨by omega, by rw [e4]; omega⟩, poI_push hI_2.2 hv24 ⟨hi0.1, by omega⟩ (by rw [h_a, h_w]; exact f_53) (by rw [h_a]; exact h_x) hps⟩ (by rw [e4]; omega)
  refine Wx.weak (lo' := [some (.ref (ad (b + 6, 4))), some (jI u), some (jI 0), none, none, none]) ⟨rfl, rfl, rfl, trivial⟩ ?_
  exact loop_2 _ 0 σ ⟨⟨by omega, (h.1.2.1.1 u hv24.1 hv24.2).1⟩, poI_0 h⟩ (Nat.lt_succ_self _)

set_option maxHeartbeats 4000000 in
set_option maxRecDepth 100000 in
theorem c_X5_lift (l : Launch) (D : va_G) (cs : Nat → ClassId) (ad : Ix → Nat) (hap : Apart idsF ad) {b : Nat} (hb : b < 2) {σ : Mem} {N0 : (Int → Bool) → Int} {s t B : Int} (h : pfI σ b N0 s t B) {u : Int} (hu : 0 ≤ u ∧ u < σ (0, 0) 0) (hut : u ≠ t) (hus : u = s → σ (b + 6, 6) u < σ (0, 0) 0) (hp : 0 < σ (b + 6, 5) u → ∀ a, 0 ≤ a → a < σ (0, 1) 0 → (σ (0, 2) a = u ∨ σ (0, 3) a = u) → 0 < rmF σ b a u → σ (b + 6, 6) u ≤ σ (b + 6, 6) (otF σ a u)) : CV l D cs idsF ad yX5_lift cX5_lift 5 1 [(.ref (ad (b + 6, 4))), (jI u)] σ (fun τ => lfP σ τ b N0 s t B u) := by
  refine CV.of RX5 hap idsF_nd (by decide) rfl (Nat.le_of_ble_eq_true rfl) ?_
  intro pg ev s0 mi av bl mt cd X K hr
  have hN := (pf_net h).1
  have hA := (pf_net h).2.1
  have hF := (pf_net h).2.2
  have hn := h.1.1.1
  have hv24 : 0 ≤ u ∧ u < 24 := ⟨by omega, by omega⟩
  have hdg := hA.1 u hv24.1 hv24.2
  have hx := pf_exc h hu
  have hm := hN.2.1
  have hB := (pf_ends h).2.2.2.2
  have he := pf_ends h
  have hgu := pf_hgt h hu
  refine zr_aloadn X dX5_lift_0 rfl ?_
  refine zr_get X K (C := RX5) (T := TX5) (N := 7) (k := 2) (mB hb (by decide)) rfl rfl ti_5 (by decide) rfl tw_102 rfl dX5_lift_1 ?_
  refine zr_iloadn X dX5_lift_4 rfl ?_
  refine zr_iald X K (n := 24) (mB hb (by decide)) rfl (by decide) (by omega) dX5_lift_5 ?_
  refine zr_if_ne X 10 dX5_lift_6 (by decide) ⟨by omega, by omega⟩ (fun t_6 => ?_) (fun f_6 => ?_)
  · refine zr_bipush X dX5_lift_10 rfl ?_
    refine zr_istoren X dX5_lift_12 (by decide) rfl ?_
    refine zr_iconst X dX5_lift_13 ?_
    refine zr_istoren X dX5_lift_14 (by decide) rfl ?_
    have loop_15 : ∀ (n_15 : Nat) (y : Int) (i : Int), ((0 ≤ i ∧ i ≤ σ (0, 4) u) ∧ lfI σ b u i y) → (σ (0, 4) u - i).toNat < n_15 → Wx pg l ev (rmm 1 0 0) s0 mi av bl mt cd D cs idsF ad (Rg idsF ad) s0.heap 5 (MQ bl (qV D cs idsF ad ((fun τ => lfP σ τ b N0 s t B u))) av s0 0 0 (Rg idsF ad)) 0 0 σ 15 [some (.ref (ad (b + 6, 4))), some (jI u), some (jI y), some (jI i), none] [] := by
      intro n_15
      induction n_15 with
      | zero => exact fun y i hinv hn => absurd hn (Nat.not_lt_zero _)
      | succ n_15 ih_15 =>
        intro y i hI_15 hn_15
        have hi0 := hI_15.1
        have hy0 := hI_15.2.1
        have hy1 := hI_15.2.2.1
        refine zr_iloadn X dX5_lift_15 rfl ?_
        refine zr_aloadn X dX5_lift_16 rfl ?_
        refine zr_get X K (C := RX5) (T := TX5) (N := 7) (k := 0) (mB hb (by decide)) rfl rfl ti_5 (by decide) rfl tw_100 rfl dX5_lift_17 ?_
        refine zr_getN X K (C := RX4) (T := TX4) (N := 6) (k := 4) mF_0_0 rfl rfl ti_4 (by decide) rfl tn_51 rfl dX5_lift_20 ?_
        refine zr_iloadn X dX5_lift_23 rfl ?_
        refine zr_iald X K (n := 24) mF_0_4 rfl (by decide) (by omega) dX5_lift_24 ?_
        refine zr_icmp_ge X 80 dX5_lift_25 (by decide) ⟨by omega, by omega⟩ ⟨by omega, by omega⟩ (fun t_25 => ?_) (fun f_25 => ?_)
        · refine zr_aloadn X dX5_lift_80 rfl ?_
          refine zr_get X K (C := RX5) (T := TX5) (N := 7) (k := 3) (mB hb (by decide)) rfl rfl ti_5 (by decide) rfl tw_103 rfl dX5_lift_81 ?_
          refine zr_iloadn X dX5_lift_84 rfl ?_
          refine zr_iloadn X dX5_lift_85 rfl ?_
          refine zr_aloadn X dX5_lift_86 rfl ?_
          refine zr_get X K (C := RX5) (T := TX5) (N := 7) (k := 5) (mB hb (by decide)) rfl rfl ti_5 (by decide) rfl tw_105 rfl dX5_lift_87 ?_
          refine zr_icmp_ne X 109 dX5_lift_90 (by decide) ⟨by omega, by omega⟩ ⟨by omega, by omega⟩ (fun t_90 => ?_) (fun f_90 => ?_)
          · refine zr_iloadn X dX5_lift_109 rfl ?_
            refine zr_iconst X dX5_lift_110 ?_
            refine zr_iadd X dX5_lift_111 ?_
            refine zr_iast X K (n := 24) (mB hb (by decide)) (fun _ => rfl) rfl (by decide) (by omega) dX5_lift_112 ?_
            refine zr_vret X hr dX5_lift_113 ?_
            exact lf_end h hu hut hus (by omega) (hp (by omega)) hI_15.2 (by omega) (by omega) ⟨fun e => by omega, fun e => by omega⟩
          · refine zr_iloadn X dX5_lift_93 rfl ?_
            refine zr_iconst X dX5_lift_94 ?_
            refine zr_iadd X dX5_lift_95 ?_
            refine zr_aloadn X dX5_lift_96 rfl ?_
            refine zr_get X K (C := RX5) (T := TX5) (N := 7) (k := 0) (mB hb (by decide)) rfl rfl ti_5 (by decide) rfl tw_100 rfl dX5_lift_97 ?_
            refine zr_getN X K (C := RX4) (T := TX4) (N := 6) (k := 0) mF_0_0 rfl rfl ti_4 (by decide) rfl tn_35 rfl dX5_lift_100 ?_
            refine zr_min X tw_335 tw_336 tw_15 tw_337 ⟨Nat.le_of_ble_eq_true rfl, Nat.le_of_ble_eq_true rfl, Nat.le_of_ble_eq_true rfl, Nat.le_of_ble_eq_true rfl⟩ ⟨by omega, by omega⟩ ⟨by omega, by omega⟩ dX5_lift_103 (fun zz h_zz => ?_)
            refine zr_goto X 112 dX5_lift_106 (by decide) ?_
            refine zr_iast X K (n := 24) (mB hb (by decide)) (fun _ => rfl) rfl (by decide) (by omega) dX5_lift_112 ?_
            refine zr_vret X hr dX5_lift_113 ?_
            exact lf_end h hu hut hus (by omega) (hp (by omega)) hI_15.2 (by omega) (by omega) ⟨fun e => by omega, fun e => by omega⟩
        · refine zr_aloadn X dX5_lift_28 rfl ?_
          refine zr_get X K (C := RX5) (T := TX5) (N := 7) (k := 0) (mB hb (by decide)) rfl rfl ti_5 (by decide) rfl tw_100 rfl dX5_lift_29 ?_
          refine zr_getN X K (C := RX4) (T := TX4) (N := 6) (k := 5) mF_0_0 rfl rfl ti_4 (by decide) rfl tn_53 rfl dX5_lift_32 ?_
          refine zr_iloadn X dX5_lift_35 rfl ?_
          refine zr_aald X K (n := 24) (f := fun v => ad (1, v)) mF_0_5 rfl (by decide) (by omega) dX5_lift_36 ?_
          refine zr_iloadn X dX5_lift_37 rfl ?_
          refine zr_iald X K (n := 80) (mR1 (by omega)) rfl (by decide) (by omega) dX5_lift_38 ?_
          generalize h_a : σ (1, (u).toNat) i = a
          have hai := hA.2.2.1 u i hv24.1 hv24.2 hi0.1 (by omega)
          rw [h_a] at hai
          have ha := hai.1
          have hua := hai.2
          have hr := rmF_rg hF (v := u) ha
          refine zr_istore X dX5_lift_39 (by decide) rfl ?_
          refine zr_aloadn X dX5_lift_41 rfl ?_
          refine zr_get X K (C := RX5) (T := TX5) (N := 7) (k := 1) (mB hb (by decide)) rfl rfl ti_5 (by decide) rfl tw_101 rfl dX5_lift_42 ?_
          refine zr_iload X dX5_lift_45 rfl ?_
          refine zr_iloadn X dX5_lift_47 rfl ?_
          refine zr_callNI X K (q := (RX1, TX1, 3)) (st := []) (c_X1_room l D cs ad hap hb (σ := σ) hN (a := a) (v := u) ha hv24) ⟨tn_318, tw_320, tp_8, tw_4, tw_321⟩ dc_X1_room (mB hb (by decide)) rfl rfl rfl rfl rfl (Nat.le_of_ble_eq_true rfl) (by decide) dX5_lift_48 ?_
          intro z_ τ_ hp_
          obtain ⟨hτ_, hz_⟩ := hp_
          subst τ_
          subst z_
          refine zr_if_le X 74 dX5_lift_51 (by decide) ⟨by omega, by omega⟩ (fun t_51 => ?_) (fun f_51 => ?_)
          · refine zr_iinc X dX5_lift_74 rfl (by decide) rfl ?_
            refine zr_goto X 15 dX5_lift_77 (by decide) ?_
            refine Wx.weak (lo' := [some (.ref (ad (b + 6, 4))), some (jI u), some (jI y), some (jI (i + 1)), none]) ⟨rfl, rfl, rfl, rfl, trivial⟩ ?_
            exact ih_15 _ _ ⟨⟨by omega, by omega⟩, lfI_skip hI_15.2 (by rw [h_a]; omega)⟩ (by omega)
          · refine zr_iloadn X dX5_lift_54 rfl ?_
            refine zr_aloadn X dX5_lift_55 rfl ?_
            refine zr_get X K (C := RX5) (T := TX5) (N := 7) (k := 3) (mB hb (by decide)) rfl rfl ti_5 (by decide) rfl tw_103 rfl dX5_lift_56 ?_
            refine zr_aloadn X dX5_lift_59 rfl ?_
            refine zr_get X K (C := RX5) (T := TX5) (N := 7) (k := 0) (mB hb (by decide)) rfl rfl ti_5 (by decide) rfl tw_100 rfl dX5_lift_60 ?_
            refine zr_iload X dX5_lift_63 rfl ?_
            refine zr_iloadn X dX5_lift_65 rfl ?_
            refine zr_callNI X K (q := (RX4, TX4, 6)) (st := [(.ref (ad (b + 6, 6))), (jI y)]) (c_X4_otherEnd l D cs ad hap (σ := σ) hN (a := a) (v := u) ha hv24) ⟨tn_314, tw_316, tp_7, tw_2, tw_317⟩ dc_X4_otherEnd mF_0_0 rfl rfl rfl rfl rfl (Nat.le_of_ble_eq_true rfl) (by decide) dX5_lift_66 ?_
            intro z_ τ_ hp_
            obtain ⟨hτ_, hz_⟩ := hp_
            subst τ_
            subst z_
            generalize h_w : otF σ a u = w
            have hw0 : 0 ≤ w ∧ w < σ (0, 0) 0 := by rw [← h_w]; exact (ends hN ha hua).2.1
            have g2 := pf_hgt h hw0
            refine zr_iald X K (n := 24) (mB hb (by decide)) rfl (by decide) (by omega) dX5_lift_69 ?_
            refine zr_min X tw_335 tw_336 tw_15 tw_337 ⟨Nat.le_of_ble_eq_true rfl, Nat.le_of_ble_eq_true rfl, Nat.le_of_ble_eq_true rfl, Nat.le_of_ble_eq_true rfl⟩ ⟨by omega, by omega⟩ ⟨by omega, by omega⟩ dX5_lift_70 (fun z h_z => ?_)
            refine zr_istoren X dX5_lift_73 (by decide) rfl ?_
            refine zr_iinc X dX5_lift_74 rfl (by decide) rfl ?_
            refine zr_goto X 15 dX5_lift_77 (by decide) ?_
            refine Wx.weak (lo' := [some (.ref (ad (b + 6, 4))), some (jI u), some (jI z), some (jI (i + 1)), none]) ⟨rfl, rfl, rfl, rfl, trivial⟩ ?_
            exact ih_15 _ _ ⟨⟨by omega, by omega⟩, lfI_min hI_15.2 hi0.1 (by rw [h_a]; omega) (by rw [h_a, h_w]; omega) (by rw [h_a, h_w]; exact h_z)⟩ (by omega)
    refine Wx.weak (lo' := [some (.ref (ad (b + 6, 4))), some (jI u), some (jI 48), some (jI 0), none]) ⟨rfl, rfl, rfl, rfl, trivial⟩ ?_
    exact loop_15 _ _ _ ⟨⟨by omega, by omega⟩, lfI_0⟩ (Nat.lt_succ_self _)
  · refine zr_vret X hr dX5_lift_9 ?_
    exact Or.inl ⟨by omega, rfl⟩

set_option maxHeartbeats 4000000 in
set_option maxRecDepth 100000 in
theorem c_X5_sweepOnce (l : Launch) (D : va_G) (cs : Nat → ClassId) (ad : Ix → Nat) (hap : Apart idsF ad) {b : Nat} (hb : b < 2) {σ : Mem} {N0 : (Int → Bool) → Int} {s t B : Int} (h : pfI σ b N0 s t B) {f : Int} (hf : ∀ v, 0 ≤ v → v < σ (0, 0) 0 → act σ b s t v → σ (b + 6, 6) v ≤ f) : CI l D cs idsF ad yX5_sweepOnce cX5_sweepOnce 3 .boolean 2 [(.ref (ad (b + 6, 4)))] σ (fun z τ => swP σ τ b N0 s t B f z) := by
  refine CI.of RX5 hap idsF_nd (by decide) rfl (Nat.le_of_ble_eq_true rfl) ?_
  intro pg ev s0 mi av bl mt cd X K hr
  have hn := h.1.1.1
  refine zr_iconst X dX5_sweepOnce_0 ?_
  refine zr_istoren X dX5_sweepOnce_1 (by decide) rfl ?_
  refine zr_iconst X dX5_sweepOnce_2 ?_
  refine zr_istoren X dX5_sweepOnce_3 (by decide) rfl ?_
  have loop_4 : ∀ (n_4 : Nat) (y : Int) (k : Int) (τ : Mem), ((0 ≤ k ∧ k ≤ τ (0, 0) 0) ∧ swI σ τ b N0 s t B f k y) → (τ (0, 0) 0 - k).toNat < n_4 → Wx pg l ev (rmm 2 0 0) s0 mi av bl mt cd D cs idsF ad (Rg idsF ad) s0.heap 3 (MQ bl (qI D cs idsF ad ((fun z τ => swP σ τ b N0 s t B f z))) av s0 0 0 (Rg idsF ad)) 0 0 τ 4 [some (.ref (ad (b + 6, 4))), some (jI y), some (jI k)] [] := by
    intro n_4
    induction n_4 with
    | zero => exact fun y k τ hinv hn => absurd hn (Nat.not_lt_zero _)
    | succ n_4 ih_4 =>
      intro y k τ hI_4 hn_4
      have hk0 := hI_4.1
      have hP := hI_4.2.1
      have hn2 := (pf_net hP).1.1
      have hy := hI_4.2.2.2.1
      refine zr_iloadn X dX5_sweepOnce_4 rfl ?_
      refine zr_aloadn X dX5_sweepOnce_5 rfl ?_
      refine zr_get X K (C := RX5) (T := TX5) (N := 7) (k := 0) (mB hb (by decide)) rfl rfl ti_5 (by decide) rfl tw_100 rfl dX5_sweepOnce_6 ?_
      refine zr_getN X K (C := RX4) (T := TX4) (N := 6) (k := 0) mF_0_0 rfl rfl ti_4 (by decide) rfl tn_35 rfl dX5_sweepOnce_9 ?_
      refine zr_icmp_ge X 41 dX5_sweepOnce_12 (by decide) ⟨by omega, by omega⟩ ⟨by omega, by omega⟩ (fun t_12 => ?_) (fun f_12 => ?_)
      · refine zr_iloadn X dX5_sweepOnce_41 rfl ?_
        refine zr_zret X hr dX5_sweepOnce_42 hy ?_
        exact swI_end hI_4.2 (by omega)
      · refine zr_aloadn X dX5_sweepOnce_15 rfl ?_
        refine zr_iloadn X dX5_sweepOnce_16 rfl ?_
        refine zr_callVI X K (q := (RX5, TX5, 7)) (st := []) (c_X5_isActive l D cs ad hap hb (σ := τ) hP (v := k) ⟨hk0.1, by omega⟩) ⟨tw_327, tw_329, tp_10, tw_5, tw_330⟩ dc_X5_isActive (mB hb (by decide)) rfl rfl rfl rfl rfl (Nat.le_of_ble_eq_true rfl) (by decide) dX5_sweepOnce_17 ?_
        intro z τ_ hp_
        obtain ⟨hτ_, hz⟩ := hp_
        subst τ_
        refine zr_if_eq X 35 dX5_sweepOnce_20 (by decide) (by rcases hz with q | q <;> exact ⟨by omega, by omega⟩) (fun t_20 => ?_) (fun f_20 => ?_)
        · refine zr_iinc X dX5_sweepOnce_35 rfl (by decide) rfl ?_
          refine zr_goto X 4 dX5_sweepOnce_38 (by decide) ?_
          refine Wx.weak (lo' := [some (.ref (ad (b + 6, 4))), some (jI y), some (jI (k + 1))]) ⟨rfl, rfl, rfl, trivial⟩ ?_
          exact ih_4 _ _ _ ⟨⟨by omega, by omega⟩, swI_skip hI_4.2 (hz.elim (fun q => by omega) (fun q => q.2))⟩ (by omega)
        · have hac : act τ b s t k := by
            rcases hz with q | q
            · exact q.2
            · omega
          refine zr_iconst X dX5_sweepOnce_23 ?_
          refine zr_istoren X dX5_sweepOnce_24 (by decide) rfl ?_
          refine zr_aloadn X dX5_sweepOnce_25 rfl ?_
          refine zr_iloadn X dX5_sweepOnce_26 rfl ?_
          refine zr_callVV X K (q := (RX5, TX5, 7)) (st := []) (c_X5_pushOut l D cs ad hap hb (σ := τ) hP (u := k) ⟨hk0.1, by omega⟩) ⟨tw_331, tw_333, tp_11, tw_5, tw_334⟩ dc_X5_pushOut (mB hb (by decide)) rfl rfl rfl rfl rfl (Nat.le_of_ble_eq_true rfl) (by decide) dX5_sweepOnce_27 ?_
          intro τ1 hpo
          refine zr_aloadn X dX5_sweepOnce_30 rfl ?_
          refine zr_iloadn X dX5_sweepOnce_31 rfl ?_
          refine zr_callVV X K (q := (RX5, TX5, 7)) (st := []) (c_X5_lift l D cs ad hap hb (σ := τ1) hpo.1 (u := k) (by rw [hpo.2.1.of 0 0]; exact ⟨hk0.1, by omega⟩) hac.2.1 (fun e => by rw [hpo.2.1.own 6, hpo.2.1.of 0 0]; exact hac.2.2.resolve_left (fun q => q e)) hpo.2.2.2) ⟨tw_342, tw_344, tp_13, tw_5, tw_345⟩ dc_X5_lift (mB hb (by decide)) rfl rfl rfl rfl rfl (Nat.le_of_ble_eq_true rfl) (by decide) dX5_sweepOnce_32 ?_
          intro τ2 hlf
          refine zr_iinc X dX5_sweepOnce_35 rfl (by decide) rfl ?_
          refine zr_goto X 4 dX5_sweepOnce_38 (by decide) ?_
          refine Wx.weak (lo' := [some (.ref (ad (b + 6, 4))), some (jI 1), some (jI (k + 1))]) ⟨rfl, rfl, rfl, trivial⟩ ?_
          have e0 : τ2 (0, 0) = τ (0, 0) := by
            rcases hlf with ⟨-, q⟩ | ⟨-, -, z2, -, q⟩
            · rw [q]; exact hpo.2.1.of 0 0
            · rw [q]; exact ((Fr.set (b := b) (k := 6) (L := [6]) (by decide)).of 0 0).trans (hpo.2.1.of 0 0)
          exact ih_4 _ _ _ ⟨⟨by omega, by rw [e0]; omega⟩, swI_step hI_4.2 ⟨hk0.1, by omega⟩ hac hpo hlf⟩ (by rw [e0]; omega)
  refine Wx.weak (lo' := [some (.ref (ad (b + 6, 4))), some (jI 0), some (jI 0)]) ⟨rfl, rfl, rfl, trivial⟩ ?_
  exact loop_4 _ _ _ _ ⟨⟨by omega, by omega⟩, swI_0 h hf⟩ (Nat.lt_succ_self _)
