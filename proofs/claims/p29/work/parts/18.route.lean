/-! THE ROUTER: heights, and the route -/

set_option maxHeartbeats 4000000 in
set_option maxRecDepth 100000 in
theorem c_X5_findBehind (l : Launch) (D : va_G) (cs : Nat → ClassId) (ad : Ix → Nat) (hap : Apart idsF ad) {b : Nat} (hb : b < 2) {σ : Mem} (hF0 : FlOk σ b) {t c0 x u : Int} (h : bfW σ b t c0 x 0) (hu : σ (b + 6, 7) x = u) : CI l D cs idsF ad yX5_findBehind cX5_findBehind 8 .int 1 [(.ref (ad (b + 6, 4))), (jI u), (jI c0)] σ (fun z τ => Fr b [6, 7] σ τ ∧ bfI τ b t z (x + 1)) := by
  refine CI.of RX5 hap idsF_nd (by decide) rfl (Nat.le_of_ble_eq_true rfl) ?_
  intro pg ev s0 mi av bl mt cd X K hr
  have hN0 := h.1.1
  have hn := hN0.1
  have hu0 := (h.2.1.2.2.2.1 x h.2.2.2.1.1 h.2.2.2.1.2).1
  rw [hu] at hu0
  have hv24 : 0 ≤ u ∧ u < 24 := ⟨by omega, by omega⟩
  refine zr_iloadn X dX5_findBehind_0 rfl ?_
  refine zr_istoren X dX5_findBehind_1 (by decide) rfl ?_
  refine zr_iconst X dX5_findBehind_2 ?_
  refine zr_istore X dX5_findBehind_3 (by decide) rfl ?_
  have loop_5 : ∀ (n_5 : Nat) (c : Int) (i : Int) (τ : Mem), ((0 ≤ i ∧ i ≤ τ (0, 4) u) ∧ Fr b [6, 7] σ τ ∧ bfW τ b t c x i ∧ τ (b + 6, 7) x = u) → (τ (0, 4) u - i).toNat < n_5 → Wx pg l ev (rmm 1 0 0) s0 mi av bl mt cd D cs idsF ad (Rg idsF ad) s0.heap 8 (MQ bl (qI D cs idsF ad ((fun z τ => Fr b [6, 7] σ τ ∧ bfI τ b t z (x + 1)))) av s0 0 0 (Rg idsF ad)) 0 0 τ 5 [some (.ref (ad (b + 6, 4))), some (jI u), some (jI c0), some (jI c), some (jI i), none, none, none] [] := by
    intro n_5
    induction n_5 with
    | zero => exact fun c i τ hinv hn => absurd hn (Nat.not_lt_zero _)
    | succ n_5 ih_5 =>
      intro c i τ hI_5 hn_5
      have hi0 := hI_5.1
      have hW := hI_5.2.2.1
      have hu3 := hI_5.2.2.2
      have hN := hW.1.1
      have hA := hW.1.2
      have hF := hI_5.2.1.fl (hN := hF0)
      have hdg := hA.1 u hv24.1 hv24.2
      have hm := hN.2.1
      have hn2 := hN.1
      have hu2 : 0 ≤ u ∧ u < τ (0, 0) 0 := by rw [hI_5.2.1.of 0 0]; exact hu0
      have hcn := bfW_cnt hW
      have hx4 := hW.2.2.2.1
      have hq := hW.2.1.2.2.2.1 x hx4.1 hx4.2
      rw [hu3] at hq
      refine zr_iload X dX5_findBehind_5 rfl ?_
      refine zr_aloadn X dX5_findBehind_7 rfl ?_
      refine zr_get X K (C := RX5) (T := TX5) (N := 7) (k := 0) (mB hb (by decide)) rfl rfl ti_5 (by decide) rfl tw_100 rfl dX5_findBehind_8 ?_
      refine zr_getN X K (C := RX4) (T := TX4) (N := 6) (k := 4) mF_0_0 rfl rfl ti_4 (by decide) rfl tn_51 rfl dX5_findBehind_11 ?_
      refine zr_iloadn X dX5_findBehind_14 rfl ?_
      refine zr_iald X K (n := 24) mF_0_4 rfl (by decide) (by omega) dX5_findBehind_15 ?_
      refine zr_icmp_ge X 126 dX5_findBehind_16 (by decide) ⟨by omega, by omega⟩ ⟨by omega, by omega⟩ (fun t_16 => ?_) (fun f_16 => ?_)
      · refine zr_iloadn X dX5_findBehind_126 rfl ?_
        refine zr_iret X hr dX5_findBehind_127 ?_
        exact ⟨hI_5.2.1, bfW_end hI_5.2.2.1 (by rw [hu3]; omega)⟩
      · refine zr_aloadn X dX5_findBehind_19 rfl ?_
        refine zr_get X K (C := RX5) (T := TX5) (N := 7) (k := 0) (mB hb (by decide)) rfl rfl ti_5 (by decide) rfl tw_100 rfl dX5_findBehind_20 ?_
        refine zr_getN X K (C := RX4) (T := TX4) (N := 6) (k := 5) mF_0_0 rfl rfl ti_4 (by decide) rfl tn_53 rfl dX5_findBehind_23 ?_
        refine zr_iloadn X dX5_findBehind_26 rfl ?_
        refine zr_aald X K (n := 24) (f := fun v => ad (1, v)) mF_0_5 rfl (by decide) (by omega) dX5_findBehind_27 ?_
        refine zr_iload X dX5_findBehind_28 rfl ?_
        refine zr_iald X K (n := 80) (mR1 (by omega)) rfl (by decide) (by omega) dX5_findBehind_30 ?_
        generalize h_a : τ (1, (u).toNat) i = a
        have hai := hA.2.2.1 u i hv24.1 hv24.2 hi0.1 (by omega)
        rw [h_a] at hai
        have ha := hai.1
        have hua := hai.2
        refine zr_istore X dX5_findBehind_31 (by decide) rfl ?_
        refine zr_aloadn X dX5_findBehind_33 rfl ?_
        refine zr_get X K (C := RX5) (T := TX5) (N := 7) (k := 0) (mB hb (by decide)) rfl rfl ti_5 (by decide) rfl tw_100 rfl dX5_findBehind_34 ?_
        refine zr_iload X dX5_findBehind_37 rfl ?_
        refine zr_iloadn X dX5_findBehind_39 rfl ?_
        refine zr_callNI X K (q := (RX4, TX4, 6)) (st := []) (c_X4_otherEnd l D cs ad hap (σ := τ) hN (a := a) (v := u) ha hv24) ⟨tn_314, tw_316, tp_7, tw_2, tw_317⟩ dc_X4_otherEnd mF_0_0 rfl rfl rfl rfl rfl (Nat.le_of_ble_eq_true rfl) (by decide) dX5_findBehind_40 ?_
        intro z_ τ_ hp_
        obtain ⟨hτ_, hz_⟩ := hp_
        subst τ_
        subst z_
        generalize h_w : otF τ a u = w
        refine zr_istore X dX5_findBehind_43 (by decide) rfl ?_
        have hw0 : 0 ≤ w ∧ w < τ (0, 0) 0 := by rw [← h_w]; exact (ends hN ha hua).2.1
        have hwh : 0 ≤ τ (b + 6, 6) w ∧ τ (b + 6, 6) w ≤ τ (0, 0) 0 := by
          rcases hW.2.1.2.2.2.2.1 w hw0.1 hw0.2 with q | ⟨q, j, j1, j2, j3⟩
          · omega
          · have := (hW.2.1.2.2.2.1 j j1 j2).2.1
            rw [j3] at this
            omega
        have hr := rmF_rg hF (v := w) ha
        refine zr_aloadn X dX5_findBehind_45 rfl ?_
        refine zr_get X K (C := RX5) (T := TX5) (N := 7) (k := 3) (mB hb (by decide)) rfl rfl ti_5 (by decide) rfl tw_103 rfl dX5_findBehind_46 ?_
        refine zr_iload X dX5_findBehind_49 rfl ?_
        refine zr_iald X K (n := 24) (mB hb (by decide)) rfl (by decide) (by omega) dX5_findBehind_51 ?_
        refine zr_aloadn X dX5_findBehind_52 rfl ?_
        refine zr_get X K (C := RX5) (T := TX5) (N := 7) (k := 0) (mB hb (by decide)) rfl rfl ti_5 (by decide) rfl tw_100 rfl dX5_findBehind_53 ?_
        refine zr_getN X K (C := RX4) (T := TX4) (N := 6) (k := 0) mF_0_0 rfl rfl ti_4 (by decide) rfl tn_35 rfl dX5_findBehind_56 ?_
        refine zr_icmp_ne X 66 dX5_findBehind_59 (by decide) ⟨by omega, by omega⟩ ⟨by omega, by omega⟩ (fun t_59 => ?_) (fun f_59 => ?_)
        · refine zr_iconst X dX5_findBehind_66 ?_
          refine zr_istore X dX5_findBehind_67 (by decide) rfl ?_
          refine zr_iload X dX5_findBehind_69 rfl ?_
          refine zr_if_eq X 120 dX5_findBehind_71 (by decide) ⟨by omega, by omega⟩ (fun t_71 => ?_) (fun f_71 => ?_)
          · refine zr_iinc X dX5_findBehind_120 rfl (by decide) rfl ?_
            refine zr_goto X 5 dX5_findBehind_123 (by decide) ?_
            refine Wx.weak (lo' := [some (.ref (ad (b + 6, 4))), some (jI u), some (jI c0), some (jI c), some (jI (i + 1)), none, none, none]) ⟨rfl, rfl, rfl, rfl, rfl, trivial⟩ ?_
            exact ih_5 _ _ _ ⟨⟨by omega, by omega⟩, hI_5.2.1, bfW_skip hI_5.2.2.1 ⟨hi0.1, by rw [hu3]; omega⟩ (by rw [hu3, h_a, h_w]; omega), hu3⟩ (by omega)
          · exact absurd f_71 (by decide)
        · refine zr_iconst X dX5_findBehind_62 ?_
          refine zr_goto X 67 dX5_findBehind_63 (by decide) ?_
          refine zr_istore X dX5_findBehind_67 (by decide) rfl ?_
          refine zr_iload X dX5_findBehind_69 rfl ?_
          refine zr_if_eq X 120 dX5_findBehind_71 (by decide) ⟨by omega, by omega⟩ (fun t_71 => ?_) (fun f_71 => ?_)
          · exact absurd t_71 (by decide)
          · refine zr_aloadn X dX5_findBehind_74 rfl ?_
            refine zr_get X K (C := RX5) (T := TX5) (N := 7) (k := 1) (mB hb (by decide)) rfl rfl ti_5 (by decide) rfl tw_101 rfl dX5_findBehind_75 ?_
            refine zr_iload X dX5_findBehind_78 rfl ?_
            refine zr_iload X dX5_findBehind_80 rfl ?_
            refine zr_callNI X K (q := (RX1, TX1, 3)) (st := []) (c_X1_room l D cs ad hap hb (σ := τ) hN (a := a) (v := w) ha ⟨by omega, by omega⟩) ⟨tn_318, tw_320, tp_8, tw_4, tw_321⟩ dc_X1_room (mB hb (by decide)) rfl rfl rfl rfl rfl (Nat.le_of_ble_eq_true rfl) (by decide) dX5_findBehind_82 ?_
            intro z_ τ_ hp_
            obtain ⟨hτ_, hz_⟩ := hp_
            subst τ_
            subst z_
            refine zr_if_le X 120 dX5_findBehind_85 (by decide) ⟨by omega, by omega⟩ (fun t_85 => ?_) (fun f_85 => ?_)
            · refine zr_iinc X dX5_findBehind_120 rfl (by decide) rfl ?_
              refine zr_goto X 5 dX5_findBehind_123 (by decide) ?_
              refine Wx.weak (lo' := [some (.ref (ad (b + 6, 4))), some (jI u), some (jI c0), some (jI c), some (jI (i + 1)), none, none, none]) ⟨rfl, rfl, rfl, rfl, rfl, trivial⟩ ?_
              exact ih_5 _ _ _ ⟨⟨by omega, by omega⟩, hI_5.2.1, bfW_skip hI_5.2.2.1 ⟨hi0.1, by rw [hu3]; omega⟩ (by rw [hu3, h_a, h_w]; omega), hu3⟩ (by omega)
            · refine zr_iloadn X dX5_findBehind_88 rfl ?_
              refine zr_bipush X dX5_findBehind_89 rfl ?_
              refine zr_icmp_ge X 120 dX5_findBehind_91 (by decide) ⟨by omega, by omega⟩ ⟨by omega, by omega⟩ (fun t_91 => ?_) (fun f_91 => ?_)
              · refine zr_iinc X dX5_findBehind_120 rfl (by decide) rfl ?_
                refine zr_goto X 5 dX5_findBehind_123 (by decide) ?_
                refine Wx.weak (lo' := [some (.ref (ad (b + 6, 4))), some (jI u), some (jI c0), some (jI c), some (jI (i + 1)), none, none, none]) ⟨rfl, rfl, rfl, rfl, rfl, trivial⟩ ?_
                exact ih_5 _ _ _ ⟨⟨by omega, by omega⟩, hI_5.2.1, bfW_skip hI_5.2.2.1 ⟨hi0.1, by rw [hu3]; omega⟩ (by rw [hu3, h_a, h_w]; omega), hu3⟩ (by omega)
              · have hcc := bfW_new hW hw0 (by omega)
                have hc1 := hW.2.1.2.2.1.1
                refine zr_aloadn X dX5_findBehind_94 rfl ?_
                refine zr_get X K (C := RX5) (T := TX5) (N := 7) (k := 3) (mB hb (by decide)) rfl rfl ti_5 (by decide) rfl tw_103 rfl dX5_findBehind_95 ?_
                refine zr_iload X dX5_findBehind_98 rfl ?_
                refine zr_aloadn X dX5_findBehind_100 rfl ?_
                refine zr_get X K (C := RX5) (T := TX5) (N := 7) (k := 3) (mB hb (by decide)) rfl rfl ti_5 (by decide) rfl tw_103 rfl dX5_findBehind_101 ?_
                refine zr_iloadn X dX5_findBehind_104 rfl ?_
                refine zr_iald X K (n := 24) (mB hb (by decide)) rfl (by decide) (by omega) dX5_findBehind_105 ?_
                refine zr_iconst X dX5_findBehind_106 ?_
                refine zr_iadd X dX5_findBehind_107 ?_
                refine zr_iast X K (n := 24) (mB hb (by decide)) (fun _ => rfl) rfl (by decide) (by omega) dX5_findBehind_108 ?_
                generalize hm_σ1 : mset τ (b + 6, 6) w ((τ (b + 6, 6) u) + 1) = σ1
                refine zr_aloadn X dX5_findBehind_109 rfl ?_
                refine zr_get X K (C := RX5) (T := TX5) (N := 7) (k := 4) (mB hb (by decide)) rfl rfl ti_5 (by decide) rfl tw_104 rfl dX5_findBehind_110 ?_
                refine zr_iloadn X dX5_findBehind_113 rfl ?_
                refine zr_iload X dX5_findBehind_114 rfl ?_
                refine zr_iast X K (n := 24) (mB hb (by decide)) (fun _ => rfl) rfl (by decide) (by omega) dX5_findBehind_116 ?_
                generalize hm_σ2 : mset σ1 (b + 6, 7) c w = σ2
                refine zr_iinc X dX5_findBehind_117 rfl (by decide) rfl ?_
                refine zr_iinc X dX5_findBehind_120 rfl (by decide) rfl ?_
                refine zr_goto X 5 dX5_findBehind_123 (by decide) ?_
                refine Wx.weak (lo' := [some (.ref (ad (b + 6, 4))), some (jI u), some (jI c0), some (jI (c + 1)), some (jI (i + 1)), none, none, none]) ⟨rfl, rfl, rfl, rfl, rfl, trivial⟩ ?_
                have k1 : Fr b [6, 7] τ σ1 := by rw [← hm_σ1]; exact Fr.set (by decide)
                have k2 : Fr b [7] σ1 σ2 := by rw [← hm_σ2]; exact Fr.set (by decide)
                have k3 : Fr b [6, 7] τ σ2 := k1.tr (k2.up (by decide))
                have e4 : σ2 (0, 4) = τ (0, 4) := k3.of 0 4
                have e7 : ∀ j, σ2 (b + 6, 7) j = if j = c then w else τ (b + 6, 7) j := fun j => by
                  rw [← hm_σ2, mset_at, ← hm_σ1, mset_id (by simp)]
                have e6 : ∀ v, σ2 (b + 6, 6) v = if v = w then τ (b + 6, 6) (τ (b + 6, 7) x) + 1 else τ (b + 6, 6) v := fun v => by
                  rw [k2.own 6, ← hm_σ1, mset_at, hu3]
                exact ih_5 _ _ _ ⟨⟨by omega, by rw [e4]; omega⟩, hI_5.2.1.tr k3, bfW_step hI_5.2.2.1 ⟨hi0.1, by rw [hu3]; omega⟩ (by rw [hu3, h_a, h_w]) (by omega) k3 e6 e7, by rw [e7, if_neg (by omega)]; exact hu3⟩ (by rw [e4]; omega)
  refine Wx.weak (lo' := [some (.ref (ad (b + 6, 4))), some (jI u), some (jI c0), some (jI c0), some (jI 0), none, none, none]) ⟨rfl, rfl, rfl, rfl, rfl, trivial⟩ ?_
  exact loop_5 _ _ _ _ ⟨⟨by omega, (h.1.2.1 u hv24.1 hv24.2).1⟩, Fr.rf, h, hu⟩ (Nat.lt_succ_self _)

set_option maxHeartbeats 4000000 in
set_option maxRecDepth 100000 in
theorem c_X5_setHeights (l : Launch) (D : va_G) (cs : Nat → ClassId) (ad : Ix → Nat) (hap : Apart idsF ad) {b : Nat} (hb : b < 2) {σ : Mem} (hN : NetOk σ) (hA : AdjOk σ) (hF : FlOk σ b) {t : Int} (ht : σ (b + 6, 12) 0 = t) (htn : 0 ≤ t ∧ t < σ (0, 0) 0) : CV l D cs idsF ad yX5_setHeights cX5_setHeights 3 2 [(.ref (ad (b + 6, 4)))] σ (fun τ => shP σ τ b t) := by
  refine CV.of RX5 hap idsF_nd (by decide) rfl (Nat.le_of_ble_eq_true rfl) ?_
  intro pg ev s0 mi av bl mt cd X K hr
  have hn := hN.1
  refine zr_aloadn X dX5_setHeights_0 rfl ?_
  refine zr_get X K (C := RX5) (T := TX5) (N := 7) (k := 3) (mB hb (by decide)) rfl rfl ti_5 (by decide) rfl tw_103 rfl dX5_setHeights_1 ?_
  refine zr_aloadn X dX5_setHeights_4 rfl ?_
  refine zr_get X K (C := RX5) (T := TX5) (N := 7) (k := 0) (mB hb (by decide)) rfl rfl ti_5 (by decide) rfl tw_100 rfl dX5_setHeights_5 ?_
  refine zr_getN X K (C := RX4) (T := TX4) (N := 6) (k := 0) mF_0_0 rfl rfl ti_4 (by decide) rfl tn_35 rfl dX5_setHeights_8 ?_
  refine zr_callSV X K (st := []) (c_J7_fill l D cs ad hap (σ := σ) (g := b + 6) (k := 6) (n := 24) (x := σ (0, 0) 0) (mB hb (by decide)) (fun _ => rfl) rfl (by decide)) ⟨tw_307, tw_308, tw_14, tw_309⟩ dc_J7_fill_53178 rfl rfl (Nat.le_of_ble_eq_true rfl) (by decide) dX5_setHeights_11 ?_
  intro τ1 hτ1
  have k1 : Fr b [6, 7] σ τ1 := by rw [hτ1]; exact Fr.fill (by decide)
  have ht1 : τ1 (b + 6, 12) 0 = t := by rw [k1.own 12]; exact ht
  refine zr_aloadn X dX5_setHeights_14 rfl ?_
  refine zr_get X K (C := RX5) (T := TX5) (N := 7) (k := 3) (mB hb (by decide)) rfl rfl ti_5 (by decide) rfl tw_103 rfl dX5_setHeights_15 ?_
  refine zr_aloadn X dX5_setHeights_18 rfl ?_
  refine zr_get X K (C := RX5) (T := TX5) (N := 7) (k := 6) (mB hb (by decide)) rfl rfl ti_5 (by decide) rfl tw_106 rfl dX5_setHeights_19 ?_
  refine zr_iconst X dX5_setHeights_22 ?_
  refine zr_iast X K (n := 24) (mB hb (by decide)) (fun _ => rfl) rfl (by decide) (by omega) dX5_setHeights_23 ?_
  generalize hm_σ1 : mset τ1 (b + 6, 6) (τ1 (b + 6, 12) 0) 0 = σ1
  have ht2 : σ1 (b + 6, 12) 0 = t := by rw [← hm_σ1, mset_id (by simp)]; exact ht1
  refine zr_aloadn X dX5_setHeights_24 rfl ?_
  refine zr_get X K (C := RX5) (T := TX5) (N := 7) (k := 4) (mB hb (by decide)) rfl rfl ti_5 (by decide) rfl tw_104 rfl dX5_setHeights_25 ?_
  refine zr_iconst X dX5_setHeights_28 ?_
  refine zr_aloadn X dX5_setHeights_29 rfl ?_
  refine zr_get X K (C := RX5) (T := TX5) (N := 7) (k := 6) (mB hb (by decide)) rfl rfl ti_5 (by decide) rfl tw_106 rfl dX5_setHeights_30 ?_
  refine zr_iast X K (n := 24) (mB hb (by decide)) (fun _ => rfl) rfl (by decide) (by omega) dX5_setHeights_33 ?_
  generalize hm_σ2 : mset σ1 (b + 6, 7) 0 (σ1 (b + 6, 12) 0) = σ2
  refine zr_iconst X dX5_setHeights_34 ?_
  refine zr_istoren X dX5_setHeights_35 (by decide) rfl ?_
  refine zr_iconst X dX5_setHeights_36 ?_
  refine zr_istoren X dX5_setHeights_37 (by decide) rfl ?_
  have loop_38 : ∀ (n_38 : Nat) (c : Int) (x : Int) (τ : Mem), (Fr b [6, 7] σ τ ∧ bfI τ b t c x) → (25 - x).toNat < n_38 → Wx pg l ev (rmm 2 0 0) s0 mi av bl mt cd D cs idsF ad (Rg idsF ad) s0.heap 3 (MQ bl (qV D cs idsF ad ((fun τ => shP σ τ b t))) av s0 0 0 (Rg idsF ad)) 0 0 τ 38 [some (.ref (ad (b + 6, 4))), some (jI c), some (jI x)] [] := by
    intro n_38
    induction n_38 with
    | zero => exact fun c x τ hinv hn => absurd hn (Nat.not_lt_zero _)
    | succ n_38 ih_38 =>
      intro c x τ hI_38 hn_38
      have hW := hI_38.2
      have hNt := hW.1.1
      have hnt := hNt.1
      have hx0 := hW.2.2.2.1
      have hcl := ctB_le (low τ b) (τ (0, 0) 0).toNat
      have hce := hW.2.1.2.2.1
      refine zr_iloadn X dX5_setHeights_38 rfl ?_
      refine zr_iloadn X dX5_setHeights_39 rfl ?_
      refine zr_icmp_ge X 72 dX5_setHeights_40 (by decide) ⟨by omega, by omega⟩ ⟨by omega, by omega⟩ (fun t_40 => ?_) (fun f_40 => ?_)
      · refine zr_vret X hr dX5_setHeights_72 ?_
        have he := bfI_end hI_38.2 (by omega)
        exact ⟨hI_38.1, he.1, he.2.1, he.2.2⟩
      · refine zr_iloadn X dX5_setHeights_43 rfl ?_
        refine zr_aloadn X dX5_setHeights_44 rfl ?_
        refine zr_get X K (C := RX5) (T := TX5) (N := 7) (k := 0) (mB hb (by decide)) rfl rfl ti_5 (by decide) rfl tw_100 rfl dX5_setHeights_45 ?_
        refine zr_getN X K (C := RX4) (T := TX4) (N := 6) (k := 0) mF_0_0 rfl rfl ti_4 (by decide) rfl tn_35 rfl dX5_setHeights_48 ?_
        refine zr_icmp_ge X 72 dX5_setHeights_51 (by decide) ⟨by omega, by omega⟩ ⟨by omega, by omega⟩ (fun t_51 => ?_) (fun f_51 => ?_)
        · refine zr_vret X hr dX5_setHeights_72 ?_
          have he := bfI_end hI_38.2 (by omega)
          exact ⟨hI_38.1, he.1, he.2.1, he.2.2⟩
        · refine zr_aloadn X dX5_setHeights_54 rfl ?_
          refine zr_aloadn X dX5_setHeights_55 rfl ?_
          refine zr_get X K (C := RX5) (T := TX5) (N := 7) (k := 4) (mB hb (by decide)) rfl rfl ti_5 (by decide) rfl tw_104 rfl dX5_setHeights_56 ?_
          refine zr_iloadn X dX5_setHeights_59 rfl ?_
          refine zr_iald X K (n := 24) (mB hb (by decide)) rfl (by decide) (by omega) dX5_setHeights_60 ?_
          have hq := hW.2.1.2.2.2.1 x hx0.1 (by omega)
          refine zr_iloadn X dX5_setHeights_61 rfl ?_
          refine zr_callVI X K (q := (RX5, TX5, 7)) (st := []) (c_X5_findBehind l D cs ad hap hb (σ := τ) (hI_38.1.fl (hN := hF)) (bfW_0 hI_38.2 (by omega)) rfl) ⟨tw_310, tw_312, tp_6, tw_5, tw_313⟩ dc_X5_findBehind (mB hb (by decide)) rfl rfl rfl rfl rfl (Nat.le_of_ble_eq_true rfl) (by decide) dX5_setHeights_62 ?_
          intro c2 τ3 hp
          refine zr_istoren X dX5_setHeights_65 (by decide) rfl ?_
          refine zr_iinc X dX5_setHeights_66 rfl (by decide) rfl ?_
          refine zr_goto X 38 dX5_setHeights_69 (by decide) ?_
          refine Wx.weak (lo' := [some (.ref (ad (b + 6, 4))), some (jI c2), some (jI (x + 1))]) ⟨rfl, rfl, rfl, trivial⟩ ?_
          exact ih_38 _ _ _ ⟨hI_38.1.tr hp.1, hp.2⟩ (by omega)
  refine Wx.weak (lo' := [some (.ref (ad (b + 6, 4))), some (jI 1), some (jI 0)]) ⟨rfl, rfl, rfl, trivial⟩ ?_
  have k2 : Fr b [6, 7] σ σ2 := k1.tr (Fr.tr (τ := σ1) (by rw [← hm_σ1]; exact Fr.set (by decide)) (by rw [← hm_σ2]; exact Fr.set (by decide)))
  have b0 : bfI σ2 b t 1 0 := by
    refine bfI_0 (k2.net hN) (k2.adj hA) (by rw [k2.of 0 0]; exact htn) (fun v v1 v2 => ?_) ?_
    · rw [k2.of 0 0] at v2 ⊢
      rw [← hm_σ2, mset_id (by simp), ← hm_σ1, mset_at, ht1, hτ1, mfill_in v1 (by omega)]
    · rw [← hm_σ2, mset_same, ht2]
  exact loop_38 _ _ _ _ ⟨k2, b0⟩ (Nat.lt_succ_self _)

set_option maxHeartbeats 4000000 in
set_option maxRecDepth 100000 in
theorem c_X5_route (l : Launch) (D : va_G) (cs : Nat → ClassId) (ad : Ix → Nat) (hap : Apart idsF ad) {b : Nat} (hb : b < 2) {σ : Mem} (hN : NetOk σ) (hA : AdjOk σ) (hF : FlOk σ b) {s t B : Int} (hs : -1 ≤ s ∧ s < σ (0, 0) 0) (ht : -1 ≤ t ∧ t < σ (0, 0) 0) (hB : rg B ∧ B ≤ 100000000) : CI l D cs idsF ad yX5_route cX5_route 6 .int 3 [(.ref (ad (b + 6, 4))), (jI s), (jI t), (jI B)] σ (fun z τ => rtP σ τ b s t B z) := by
  refine CI.of RX5 hap idsF_nd (by decide) rfl (Nat.le_of_ble_eq_true rfl) ?_
  intro pg ev s0 mi av bl mt cd X K hr
  have hn := hN.1
  have hB1 := hB.1.1
  have hB2 := hB.1.2
  refine zr_iloadn X dX5_route_0 rfl ?_
  refine zr_if_lt X 17 dX5_route_1 (by decide) ⟨by omega, by omega⟩ (fun t_1 => ?_) (fun f_1 => ?_)
  · refine zr_iconst X dX5_route_17 ?_
    refine zr_iret X hr dX5_route_18 ?_
    exact rtP_no hF (by omega)
  · refine zr_iloadn X dX5_route_4 rfl ?_
    refine zr_if_lt X 17 dX5_route_5 (by decide) ⟨by omega, by omega⟩ (fun t_5 => ?_) (fun f_5 => ?_)
    · refine zr_iconst X dX5_route_17 ?_
      refine zr_iret X hr dX5_route_18 ?_
      exact rtP_no hF (by omega)
    · refine zr_iloadn X dX5_route_8 rfl ?_
      refine zr_iloadn X dX5_route_9 rfl ?_
      refine zr_icmp_eq X 17 dX5_route_10 (by decide) ⟨by omega, by omega⟩ ⟨by omega, by omega⟩ (fun t_10 => ?_) (fun f_10 => ?_)
      · refine zr_iconst X dX5_route_17 ?_
        refine zr_iret X hr dX5_route_18 ?_
        exact rtP_no hF (by omega)
      · refine zr_iloadn X dX5_route_13 rfl ?_
        refine zr_if_gt X 19 dX5_route_14 (by decide) ⟨by omega, by omega⟩ (fun t_14 => ?_) (fun f_14 => ?_)
        · refine zr_aloadn X dX5_route_19 rfl ?_
          refine zr_iloadn X dX5_route_20 rfl ?_
          refine zr_put X K (q := (b + 6, 11)) (C := RX5) (T := TX5) (ty0 := tyX5) (N := 7) (k := 5) (mB hb (by decide)) (fun _ => rfl) (by simp [mset]) rfl rfl ti_5 tyX5_ok nmX5 (by decide) rfl tw_105 rfl rfl rfl (Nat.le_of_ble_eq_true rfl) dX5_route_21 ?_
          generalize hm_σ1 : mset σ (b + 6, 11) 0 s = σ1
          refine zr_aloadn X dX5_route_24 rfl ?_
          refine zr_iloadn X dX5_route_25 rfl ?_
          refine zr_put X K (q := (b + 6, 12)) (C := RX5) (T := TX5) (ty0 := tyX5) (N := 7) (k := 6) (mB hb (by decide)) (fun _ => rfl) (by simp [mset]) rfl rfl ti_5 tyX5_ok nmX5 (by decide) rfl tw_106 rfl rfl rfl (Nat.le_of_ble_eq_true rfl) dX5_route_26 ?_
          generalize hm_σ2 : mset σ1 (b + 6, 12) 0 t = σ2
          have hk2 : Fr b [11, 12] σ σ2 := by
            refine Fr.tr (τ := σ1) ?_ ?_
            · rw [← hm_σ1]; exact Fr.set (by decide)
            · rw [← hm_σ2]; exact Fr.set (by decide)
          have e12 : σ2 (b + 6, 12) 0 = t := by rw [← hm_σ2, mset_same]
          have e11 : σ2 (b + 6, 11) 0 = s := by rw [← hm_σ2, mset_id (by simp), ← hm_σ1, mset_same]
          refine zr_aloadn X dX5_route_29 rfl ?_
          refine zr_callVV X K (q := (RX5, TX5, 7)) (st := []) (c_X5_setHeights l D cs ad hap hb (σ := σ2) (hk2.net hN) (hk2.adj hA) (hk2.fl (hN := hF)) (t := t) e12 (by rw [hk2.of 0 0]; omega)) ⟨tw_303, tw_305, tp_5, tw_5, tw_306⟩ dc_X5_setHeights (mB hb (by decide)) rfl rfl rfl rfl rfl (Nat.le_of_ble_eq_true rfl) (by decide) dX5_route_30 ?_
          intro τ1 hsh
          refine zr_aloadn X dX5_route_33 rfl ?_
          refine zr_get X K (C := RX5) (T := TX5) (N := 7) (k := 2) (mB hb (by decide)) rfl rfl ti_5 (by decide) rfl tw_102 rfl dX5_route_34 ?_
          refine zr_iconst X dX5_route_37 ?_
          refine zr_callSV X K (st := []) (c_J7_fill l D cs ad hap (σ := τ1) (g := b + 6) (k := 5) (n := 24) (x := 0) (mB hb (by decide)) (fun _ => rfl) rfl (by decide)) ⟨tw_307, tw_308, tw_14, tw_309⟩ dc_J7_fill_53178 rfl rfl (Nat.le_of_ble_eq_true rfl) (by decide) dX5_route_38 ?_
          intro τ2 hτ2
          refine zr_aloadn X dX5_route_41 rfl ?_
          refine zr_get X K (C := RX5) (T := TX5) (N := 7) (k := 2) (mB hb (by decide)) rfl rfl ti_5 (by decide) rfl tw_102 rfl dX5_route_42 ?_
          refine zr_iloadn X dX5_route_45 rfl ?_
          refine zr_iloadn X dX5_route_46 rfl ?_
          refine zr_iast X K (n := 24) (mB hb (by decide)) (fun _ => rfl) rfl (by decide) (by omega) dX5_route_47 ?_
          generalize hm_σ3 : mset τ2 (b + 6, 5) s B = σ3
          refine zr_iconst X dX5_route_48 ?_
          refine zr_istore X dX5_route_49 (by decide) rfl ?_
          refine zr_iconst X dX5_route_51 ?_
          refine zr_istore X dX5_route_52 (by decide) rfl ?_
          have loop_54 : ∀ (n_54 : Nat) (y : Int) (k : Int) (τ : Mem), (∃ f, rtI σ τ b (net σ b) s t B f k y) → (100000 - k).toNat < n_54 → Wx pg l ev (rmm 3 0 0) s0 mi av bl mt cd D cs idsF ad (Rg idsF ad) s0.heap 6 (MQ bl (qI D cs idsF ad ((fun z τ => rtP σ τ b s t B z))) av s0 0 0 (Rg idsF ad)) 0 0 τ 54 [some (.ref (ad (b + 6, 4))), some (jI s), some (jI t), some (jI B), some (jI y), some (jI k)] [] := by
            intro n_54
            induction n_54 with
            | zero => exact fun y k τ hinv hn => absurd hn (Nat.not_lt_zero _)
            | succ n_54 ih_54 =>
              intro y k τ hI_54 hn_54
              obtain ⟨f0, hf0⟩ := id hI_54
              have hk0 := hf0.2.2.2.2.2.2.1
              have hy := hf0.2.2.1
              have hP := hf0.1
              have hms := hf0.2.2.2.2.2.2.2
              have hHS := HS_rg hP
              have en : τ (0, 0) = σ (0, 0) := hf0.2.1.of 0 0
              refine zr_iload X dX5_route_54 rfl ?_
              refine zr_ldc (n := 1000000) X dX5_route_56 tw_322 rfl ?_
              refine zr_icmp_ge X 78 dX5_route_58 (by decide) ⟨by omega, by omega⟩ ⟨by omega, by omega⟩ (fun t_58 => ?_) (fun f_58 => ?_)
              · refine zr_aloadn X dX5_route_78 rfl ?_
                refine zr_get X K (C := RX5) (T := TX5) (N := 7) (k := 2) (mB hb (by decide)) rfl rfl ti_5 (by decide) rfl tw_102 rfl dX5_route_79 ?_
                refine zr_iloadn X dX5_route_82 rfl ?_
                refine zr_iald X K (n := 24) (mB hb (by decide)) rfl (by decide) (by omega) dX5_route_83 ?_
                refine zr_iret X hr dX5_route_84 ?_
                exact rtI_end hf0 (by omega) (by omega)
              · refine zr_iload X dX5_route_61 rfl ?_
                refine zr_if_eq X 78 dX5_route_63 (by decide) ⟨by omega, by omega⟩ (fun t_63 => ?_) (fun f_63 => ?_)
                · refine zr_aloadn X dX5_route_78 rfl ?_
                  refine zr_get X K (C := RX5) (T := TX5) (N := 7) (k := 2) (mB hb (by decide)) rfl rfl ti_5 (by decide) rfl tw_102 rfl dX5_route_79 ?_
                  refine zr_iloadn X dX5_route_82 rfl ?_
                  refine zr_iald X K (n := 24) (mB hb (by decide)) rfl (by decide) (by omega) dX5_route_83 ?_
                  refine zr_iret X hr dX5_route_84 ?_
                  exact rtI_end hf0 (by omega) (by omega)
                · refine zr_aloadn X dX5_route_66 rfl ?_
                  refine zr_callVI X K (q := (RX5, TX5, 7)) (st := []) (c_X5_sweepOnce l D cs ad hap hb (σ := τ) hI_54.choose_spec.1 (f := hI_54.choose) hI_54.choose_spec.2.2.2.2.1) ⟨tw_323, tw_325, tp_9, tw_5, tw_326⟩ dc_X5_sweepOnce (mB hb (by decide)) rfl rfl rfl rfl rfl (Nat.le_of_ble_eq_true rfl) (by decide) dX5_route_67 ?_
                  intro z τ3 hw
                  refine zr_istore X dX5_route_70 (by decide) rfl ?_
                  refine zr_iinc X dX5_route_72 rfl (by decide) rfl ?_
                  refine zr_goto X 54 dX5_route_75 (by decide) ?_
                  refine Wx.weak (lo' := [some (.ref (ad (b + 6, 4))), some (jI s), some (jI t), some (jI B), some (jI z), some (jI (k + 1))]) ⟨rfl, rfl, rfl, rfl, rfl, rfl, trivial⟩ ?_
                  exact ih_54 _ _ _ (rtI_step hI_54.choose_spec (by omega) hw) (by omega)
          refine Wx.weak (lo' := [some (.ref (ad (b + 6, 4))), some (jI s), some (jI t), some (jI B), some (jI 1), some (jI 0)]) ⟨rfl, rfl, rfl, rfl, rfl, rfl, trivial⟩ ?_
          have k3 : Fr b [5] τ1 τ2 := by rw [hτ2]; exact Fr.fill (by decide)
          have k4 : Fr b [5] τ2 σ3 := by rw [← hm_σ3]; exact Fr.set (by decide)
          have k5 : Fr b [5, 6, 7, 11, 12] σ σ3 := (hk2.up (by decide)).tr ((hsh.1.up (by decide)).tr ((k3.up (by decide)).tr (k4.up (by decide))))
          have k6 : Fr b [5] τ1 σ3 := k3.tr k4
          have hpf : pfI σ3 b (net σ b) s t B := by
            refine pfI_0 hN hA hF k5 ?_ ?_ ?_ (fun v v1 v2 => ?_) (by omega) (by omega) (by omega) (by omega) ?_ ?_
            · have := hsh.2.1
              unfold VL at this ⊢
              rw [k6.of 0 1, k6.of 0 2, k6.of 0 3, k6.own 2, k6.own 3, k6.own 6]
              exact this
            · rw [k6.own 6]; exact hsh.2.2.1
            · rw [k6.own 6, k6.of 0 0]; exact hsh.2.2.2
            · rw [← hm_σ3, mset_at]
              by_cases e : v = s
              · rw [if_pos e, if_pos e]
              · rw [if_neg e, if_neg e, hτ2, mfill_in v1 (by omega)]
            · rw [k6.own 11, hsh.1.own 11]; exact e11
            · rw [k6.own 12, hsh.1.own 12]; exact e12
          exact loop_54 _ _ _ _ ⟨47, rtI_0 hpf (k5.up (by decide))⟩ (Nat.lt_succ_self _)
        · refine zr_iconst X dX5_route_17 ?_
          refine zr_iret X hr dX5_route_18 ?_
          exact rtP_no hF (by omega)
