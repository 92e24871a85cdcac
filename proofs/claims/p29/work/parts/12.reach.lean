/-! FLOW: what is reached, what leads out -/

theorem rmF_rg {σ : Mem} {b : Nat} (hF : FlOk σ b) {a v : Int} (ha : 0 ≤ a ∧ a < σ (0, 1) 0) : 0 ≤ rmF σ b a v ∧ rmF σ b a v ≤ 100000000 := by
  have h := hF a ha.1 ha.2
  unfold rmF
  split <;> omega
theorem rmF_rg' {σ : Mem} {b : Nat} (hF : FlOk σ b) {a v : Int} (ha : 0 ≤ a ∧ a < σ (0, 1) 0) : rg (rmF σ b a v) := by
  have h := rmF_rg hF (v := v) ha
  exact ⟨by omega, by omega⟩

set_option maxHeartbeats 4000000 in
set_option maxRecDepth 100000 in
theorem c_X1_withNeighbours (l : Launch) (D : va_G) (cs : Nat → ClassId) (ad : Ix → Nat) (hap : Apart idsF ad) {b : Nat} (hb : b < 2) {σ : Mem} (hN : NetOk σ) (hF : FlOk σ b) {q : Int} (hq : mk24 q) : CI l D cs idsF ad yX1_withNeighbours cX1_withNeighbours 6 .int 1 [(.ref (ad (b + 6, 1))), (jI q)] σ (fun z τ => τ = σ ∧ wnP σ b q z) := by
  refine CI.of RX1 hap idsF_nd (by decide) rfl (Nat.le_of_ble_eq_true rfl) ?_
  intro pg ev s0 mi av bl mt cd X K hr
  have hA := hN.2.1
  have hn := hN.1
  refine zr_iloadn X dX1_withNeighbours_0 rfl ?_
  refine zr_istoren X dX1_withNeighbours_1 (by decide) rfl ?_
  refine zr_iconst X dX1_withNeighbours_2 ?_
  refine zr_istoren X dX1_withNeighbours_3 (by decide) rfl ?_
  have loop_4 : ∀ (n_4 : Nat) (w : Int) (i : Int), ((0 ≤ i ∧ i ≤ σ (0, 1) 0) ∧ wnI σ b q w i) → (σ (0, 1) 0 - i).toNat < n_4 → Wx pg l ev (rmm 1 0 0) s0 mi av bl mt cd D cs idsF ad (Rg idsF ad) s0.heap 6 (MQ bl (qI D cs idsF ad ((fun z τ => τ = σ ∧ wnP σ b q z))) av s0 0 0 (Rg idsF ad)) 0 0 σ 4 [some (.ref (ad (b + 6, 1))), some (jI q), some (jI w), some (jI i), none, none] [] := by
    intro n_4
    induction n_4 with
    | zero => exact fun w i hinv hn => absurd hn (Nat.not_lt_zero _)
    | succ n_4 ih_4 =>
      intro w i hI_4 hn_4
      have hw := hI_4.2.1
      have hi0 := hI_4.1
      refine zr_iloadn X dX1_withNeighbours_4 rfl ?_
      refine zr_aloadn X dX1_withNeighbours_5 rfl ?_
      refine zr_get X K (C := RX1) (T := TX1) (N := 3) (k := 0) (mB hb (by decide)) rfl rfl ti_1 (by decide) rfl tw_80 rfl dX1_withNeighbours_6 ?_
      refine zr_getN X K (C := RX4) (T := TX4) (N := 6) (k := 1) mF_0_0 rfl rfl ti_4 (by decide) rfl tn_40 rfl dX1_withNeighbours_9 ?_
      refine zr_icmp_ge X 95 dX1_withNeighbours_12 (by decide) ⟨by omega, by omega⟩ ⟨by omega, by omega⟩ (fun t_12 => ?_) (fun f_12 => ?_)
      · refine zr_iloadn X dX1_withNeighbours_95 rfl ?_
        refine zr_iret X hr dX1_withNeighbours_96 ?_
        exact ⟨rfl, wnI_end hI_4.2 (by omega)⟩
      · have hi : 0 ≤ i ∧ i < σ (0, 1) 0 := ⟨by omega, by omega⟩
        have ht := (hN.2.2 i hi.1 hi.2).1
        have hh := (hN.2.2 i hi.1 hi.2).2.1
        refine zr_aloadn X dX1_withNeighbours_15 rfl ?_
        refine zr_get X K (C := RX1) (T := TX1) (N := 3) (k := 0) (mB hb (by decide)) rfl rfl ti_1 (by decide) rfl tw_80 rfl dX1_withNeighbours_16 ?_
        refine zr_getN X K (C := RX4) (T := TX4) (N := 6) (k := 2) mF_0_0 rfl rfl ti_4 (by decide) rfl tn_43 rfl dX1_withNeighbours_19 ?_
        refine zr_iloadn X dX1_withNeighbours_22 rfl ?_
        refine zr_iald X K (n := 80) mF_0_2 rfl (by decide) (by omega) dX1_withNeighbours_23 ?_
        refine zr_istore X dX1_withNeighbours_24 (by decide) rfl ?_
        refine zr_aloadn X dX1_withNeighbours_26 rfl ?_
        refine zr_get X K (C := RX1) (T := TX1) (N := 3) (k := 0) (mB hb (by decide)) rfl rfl ti_1 (by decide) rfl tw_80 rfl dX1_withNeighbours_27 ?_
        refine zr_getN X K (C := RX4) (T := TX4) (N := 6) (k := 3) mF_0_0 rfl rfl ti_4 (by decide) rfl tn_48 rfl dX1_withNeighbours_30 ?_
        refine zr_iloadn X dX1_withNeighbours_33 rfl ?_
        refine zr_iald X K (n := 80) mF_0_3 rfl (by decide) (by omega) dX1_withNeighbours_34 ?_
        refine zr_istore X dX1_withNeighbours_35 (by decide) rfl ?_
        refine zr_iloadn X dX1_withNeighbours_37 rfl ?_
        refine zr_iload X dX1_withNeighbours_38 rfl ?_
        refine zr_callSNI X K (st := []) (c_X6_contains l D cs ad hap (m := w) (v := σ (0, 2) i) ⟨hw.1, by have := hw.2; omega⟩ ⟨by omega, by omega⟩) ⟨tn_474, tw_467, tw_1, tw_468⟩ dc_X6_contains rfl rfl (Nat.le_of_ble_eq_true rfl) (by decide) dX1_withNeighbours_40 ?_
        intro z_ τ_ hp_
        obtain ⟨hτ_, hz_⟩ := hp_
        subst τ_
        subst z_
        have join_63 : ∀ (w1 : Int), (hlf σ b i w w1 (σ (0, 2) i) (σ (0, 3) i)) → Wx pg l ev (rmm 1 0 0) s0 mi av bl mt cd D cs idsF ad (Rg idsF ad) s0.heap 6 (MQ bl (qI D cs idsF ad ((fun z τ => τ = σ ∧ wnP σ b q z))) av s0 0 0 (Rg idsF ad)) 0 0 σ 63 [some (.ref (ad (b + 6, 1))), some (jI q), some (jI w1), some (jI i), some (jI (σ (0, 2) i)), some (jI (σ (0, 3) i))] [] := by
          intro w1 hJ_63
          have hw1 := hJ_63.1
          refine zr_iloadn X dX1_withNeighbours_63 rfl ?_
          refine zr_iload X dX1_withNeighbours_64 rfl ?_
          refine zr_callSNI X K (st := []) (c_X6_contains l D cs ad hap (m := w1) (v := σ (0, 3) i) ⟨hw1.1, by have := hw1.2; omega⟩ ⟨by omega, by omega⟩) ⟨tn_474, tw_467, tw_1, tw_468⟩ dc_X6_contains rfl rfl (Nat.le_of_ble_eq_true rfl) (by decide) dX1_withNeighbours_66 ?_
          intro z_ τ_ hp_
          obtain ⟨hτ_, hz_⟩ := hp_
          subst τ_
          subst z_
          refine zr_if_eq X 89 dX1_withNeighbours_69 (by decide) ite01 (fun t_69 => ?_) (fun f_69 => ?_)
          · refine zr_iinc X dX1_withNeighbours_89 rfl (by decide) rfl ?_
            refine zr_goto X 4 dX1_withNeighbours_92 (by decide) ?_
            refine Wx.weak (lo' := [some (.ref (ad (b + 6, 1))), some (jI q), some (jI w1), some (jI (i + 1)), none, none]) ⟨rfl, rfl, rfl, rfl, trivial⟩ ?_
            exact ih_4 _ _ ⟨⟨by omega, by omega⟩, wnI_step hN hi hI_4.2 hJ_63 (hlf_no hw1 (fun h1 h2 => by first | exact ite0 t_69 h1 | omega))⟩ (by omega)
          · refine zr_aloadn X dX1_withNeighbours_72 rfl ?_
            refine zr_iloadn X dX1_withNeighbours_73 rfl ?_
            refine zr_iload X dX1_withNeighbours_74 rfl ?_
            refine zr_callVI X K (q := (RX1, TX1, 3)) (st := []) (c_X1_room l D cs ad hap hb hN (a := i) (v := σ (0, 3) i) hi ⟨by omega, by omega⟩) ⟨tw_491, tw_320, tp_8, tw_4, tw_321⟩ dc_X1_room (mB hb (by decide)) rfl rfl rfl rfl rfl (Nat.le_of_ble_eq_true rfl) (by decide) dX1_withNeighbours_76 ?_
            intro z_ τ_ hp_
            obtain ⟨hτ_, hz_⟩ := hp_
            subst τ_
            subst z_
            refine zr_if_le X 89 dX1_withNeighbours_79 (by decide) (rmF_rg' hF hi) (fun t_79 => ?_) (fun f_79 => ?_)
            · refine zr_iinc X dX1_withNeighbours_89 rfl (by decide) rfl ?_
              refine zr_goto X 4 dX1_withNeighbours_92 (by decide) ?_
              refine Wx.weak (lo' := [some (.ref (ad (b + 6, 1))), some (jI q), some (jI w1), some (jI (i + 1)), none, none]) ⟨rfl, rfl, rfl, rfl, trivial⟩ ?_
              exact ih_4 _ _ ⟨⟨by omega, by omega⟩, wnI_step hN hi hI_4.2 hJ_63 (hlf_no hw1 (fun h1 h2 => by first | exact ite0 t_69 h1 | omega))⟩ (by omega)
            · refine zr_iloadn X dX1_withNeighbours_82 rfl ?_
              refine zr_iconst X dX1_withNeighbours_83 ?_
              refine zr_iload X dX1_withNeighbours_84 rfl ?_
              refine zr_ishl X dX1_withNeighbours_86 (zb_shl (by omega) (by omega)) ?_
              refine zr_ior X dX1_withNeighbours_87 (zb_or hw1.1 (pI_rg (by omega)).1) ?_
              refine zr_istoren X dX1_withNeighbours_88 (by decide) rfl ?_
              refine zr_iinc X dX1_withNeighbours_89 rfl (by decide) rfl ?_
              refine zr_goto X 4 dX1_withNeighbours_92 (by decide) ?_
              refine Wx.weak (lo' := [some (.ref (ad (b + 6, 1))), some (jI q), some (jI (oI w1 (pI (σ (0, 2) i)))), some (jI (i + 1)), none, none]) ⟨rfl, rfl, rfl, rfl, trivial⟩ ?_
              exact ih_4 _ _ ⟨⟨by omega, by omega⟩, wnI_step hN hi hI_4.2 hJ_63 (hlf_yes hw1 ⟨by omega, by omega⟩ (by omega) (ite1 f_69) (clo_hd hi (by omega)))⟩ (by omega)
        refine zr_if_eq X 63 dX1_withNeighbours_43 (by decide) ite01 (fun t_43 => ?_) (fun f_43 => ?_)
        · refine Wx.weak (lo' := [some (.ref (ad (b + 6, 1))), some (jI q), some (jI w), some (jI i), some (jI (σ (0, 2) i)), some (jI (σ (0, 3) i))]) ⟨rfl, rfl, rfl, rfl, rfl, rfl, trivial⟩ ?_
          exact join_63 _ (hlf_no hw (fun h1 h2 => by first | exact ite0 t_43 h1 | omega))
        · refine zr_aloadn X dX1_withNeighbours_46 rfl ?_
          refine zr_iloadn X dX1_withNeighbours_47 rfl ?_
          refine zr_iload X dX1_withNeighbours_48 rfl ?_
          refine zr_callVI X K (q := (RX1, TX1, 3)) (st := []) (c_X1_room l D cs ad hap hb hN (a := i) (v := σ (0, 2) i) hi ⟨by omega, by omega⟩) ⟨tw_491, tw_320, tp_8, tw_4, tw_321⟩ dc_X1_room (mB hb (by decide)) rfl rfl rfl rfl rfl (Nat.le_of_ble_eq_true rfl) (by decide) dX1_withNeighbours_50 ?_
          intro z_ τ_ hp_
          obtain ⟨hτ_, hz_⟩ := hp_
          subst τ_
          subst z_
          refine zr_if_le X 63 dX1_withNeighbours_53 (by decide) (rmF_rg' hF hi) (fun t_53 => ?_) (fun f_53 => ?_)
          · refine Wx.weak (lo' := [some (.ref (ad (b + 6, 1))), some (jI q), some (jI w), some (jI i), some (jI (σ (0, 2) i)), some (jI (σ (0, 3) i))]) ⟨rfl, rfl, rfl, rfl, rfl, rfl, trivial⟩ ?_
            exact join_63 _ (hlf_no hw (fun h1 h2 => by first | exact ite0 t_43 h1 | omega))
          · refine zr_iloadn X dX1_withNeighbours_56 rfl ?_
            refine zr_iconst X dX1_withNeighbours_57 ?_
            refine zr_iload X dX1_withNeighbours_58 rfl ?_
            refine zr_ishl X dX1_withNeighbours_60 (zb_shl (by omega) (by omega)) ?_
            refine zr_ior X dX1_withNeighbours_61 (zb_or hw.1 (pI_rg (by omega)).1) ?_
            refine zr_istoren X dX1_withNeighbours_62 (by decide) rfl ?_
            refine Wx.weak (lo' := [some (.ref (ad (b + 6, 1))), some (jI q), some (jI (oI w (pI (σ (0, 3) i)))), some (jI i), some (jI (σ (0, 2) i)), some (jI (σ (0, 3) i))]) ⟨rfl, rfl, rfl, rfl, rfl, rfl, trivial⟩ ?_
            exact join_63 _ (hlf_yes hw ⟨by omega, by omega⟩ (by omega) (ite1 f_43) (clo_tl hi (by omega)))
  refine Wx.weak (lo' := [some (.ref (ad (b + 6, 1))), some (jI q), some (jI q), some (jI 0), none, none]) ⟨rfl, rfl, rfl, rfl, trivial⟩ ?_
  exact loop_4 _ _ _ ⟨⟨by omega, by omega⟩, wnI_0 hq⟩ (Nat.lt_succ_self _)

set_option maxHeartbeats 4000000 in
set_option maxRecDepth 100000 in
theorem c_X1_reachableFrom (l : Launch) (D : va_G) (cs : Nat → ClassId) (ad : Ix → Nat) (hap : Apart idsF ad) {b : Nat} (hb : b < 2) {σ : Mem} (hN : NetOk σ) (hF : FlOk σ b) {x : Int} (hx : 0 ≤ x ∧ x < σ (0, 0) 0) : CI l D cs idsF ad yX1_reachableFrom cX1_reachableFrom 5 .int 2 [(.ref (ad (b + 6, 1))), (jI x)] σ (fun z τ => τ = σ ∧ rcP σ b x z) := by
  refine CI.of RX1 hap idsF_nd (by decide) rfl (Nat.le_of_ble_eq_true rfl) ?_
  intro pg ev s0 mi av bl mt cd X K hr
  have hA := hN.2.1
  have hn := hN.1
  refine zr_iconst X dX1_reachableFrom_0 ?_
  refine zr_iloadn X dX1_reachableFrom_1 rfl ?_
  refine zr_ishl X dX1_reachableFrom_2 (zb_shl (by omega) (by omega)) ?_
  refine zr_istoren X dX1_reachableFrom_3 (by decide) rfl ?_
  refine zr_iconst X dX1_reachableFrom_4 ?_
  refine zr_istoren X dX1_reachableFrom_5 (by decide) rfl ?_
  refine zr_iconst X dX1_reachableFrom_6 ?_
  refine zr_istore X dX1_reachableFrom_7 (by decide) rfl ?_
  have loop_9 : ∀ (n_9 : Nat) (q : Int) (f : Int) (k : Int), (rcI σ b x q f k) → (σ (0, 0) 0 - k).toNat < n_9 → Wx pg l ev (rmm 2 0 0) s0 mi av bl mt cd D cs idsF ad (Rg idsF ad) s0.heap 5 (MQ bl (qI D cs idsF ad ((fun z τ => τ = σ ∧ rcP σ b x z))) av s0 0 0 (Rg idsF ad)) 0 0 σ 9 [some (.ref (ad (b + 6, 1))), some (jI x), some (jI q), some (jI f), some (jI k)] [] := by
    intro n_9
    induction n_9 with
    | zero => exact fun q f k hinv hn => absurd hn (Nat.not_lt_zero _)
    | succ n_9 ih_9 =>
      intro q f k hI_9 hn_9
      have hk := hI_9.2.2.2.2.2.2
      have hq := hI_9.1
      have hf := hI_9.2.1
      refine zr_iload X dX1_reachableFrom_9 rfl ?_
      refine zr_aloadn X dX1_reachableFrom_11 rfl ?_
      refine zr_get X K (C := RX1) (T := TX1) (N := 3) (k := 0) (mB hb (by decide)) rfl rfl ti_1 (by decide) rfl tw_80 rfl dX1_reachableFrom_12 ?_
      refine zr_getN X K (C := RX4) (T := TX4) (N := 6) (k := 0) mF_0_0 rfl rfl ti_4 (by decide) rfl tn_36 rfl dX1_reachableFrom_15 ?_
      refine zr_icmp_ge X 40 dX1_reachableFrom_18 (by decide) ⟨by omega, by omega⟩ ⟨by omega, by omega⟩ (fun t_18 => ?_) (fun f_18 => ?_)
      · refine zr_iloadn X dX1_reachableFrom_40 rfl ?_
        refine zr_iret X hr dX1_reachableFrom_41 ?_
        exact ⟨rfl, rcI_end hN hx hI_9 (by first | exact Or.inl t_23 | exact Or.inr (by omega))⟩
      · refine zr_iloadn X dX1_reachableFrom_21 rfl ?_
        refine zr_iloadn X dX1_reachableFrom_22 rfl ?_
        refine zr_icmp_eq X 40 dX1_reachableFrom_23 (by decide) ⟨by have := hq.1; omega, by have := hq.2; omega⟩ ⟨by have := hf.1; omega, by have := hf.2; omega⟩ (fun t_23 => ?_) (fun f_23 => ?_)
        · refine zr_iloadn X dX1_reachableFrom_40 rfl ?_
          refine zr_iret X hr dX1_reachableFrom_41 ?_
          exact ⟨rfl, rcI_end hN hx hI_9 (by first | exact Or.inl t_23 | exact Or.inr (by omega))⟩
        · refine zr_iloadn X dX1_reachableFrom_26 rfl ?_
          refine zr_istoren X dX1_reachableFrom_27 (by decide) rfl ?_
          refine zr_aloadn X dX1_reachableFrom_28 rfl ?_
          refine zr_iloadn X dX1_reachableFrom_29 rfl ?_
          refine zr_callVI X K (q := (RX1, TX1, 3)) (st := []) (c_X1_withNeighbours l D cs ad hap hb hN hF (q := q) hI_9.1) ⟨tw_487, tw_489, tp_29, tw_4, tw_490⟩ dc_X1_withNeighbours (mB hb (by decide)) rfl rfl rfl rfl rfl (Nat.le_of_ble_eq_true rfl) (by decide) dX1_reachableFrom_30 ?_
          intro z τ hp
          obtain ⟨hτ, hz⟩ := hp
          subst τ
          refine zr_istoren X dX1_reachableFrom_33 (by decide) rfl ?_
          refine zr_iinc X dX1_reachableFrom_34 rfl (by decide) rfl ?_
          refine zr_goto X 9 dX1_reachableFrom_37 (by decide) ?_
          refine Wx.weak (lo' := [some (.ref (ad (b + 6, 1))), some (jI x), some (jI z), some (jI q), some (jI (k + 1))]) ⟨rfl, rfl, rfl, rfl, rfl, trivial⟩ ?_
          exact ih_9 _ _ _ (rcI_step hI_9 f_23 (by omega) hz) (by omega)
  refine Wx.weak (lo' := [some (.ref (ad (b + 6, 1))), some (jI x), some (jI (pI x)), some (jI 0), some (jI 0)]) ⟨rfl, rfl, rfl, rfl, rfl, trivial⟩ ?_
  exact loop_9 _ _ _ _ (rcI_0 hN hx) (Nat.lt_succ_self _)

/-- the sum of the capacities that lead out -/
def coF (σ : Mem) (b : Nat) (q : Int) (a : Int) : Int := if bt q (σ (0, 2) a) && !bt q (σ (0, 3) a) then σ (b + 6, 2) a else 0

set_option maxHeartbeats 4000000 in
set_option maxRecDepth 100000 in
theorem c_X1_capacityOut (l : Launch) (D : va_G) (cs : Nat → ClassId) (ad : Ix → Nat) (hap : Apart idsF ad) {b : Nat} (hb : b < 2) {σ : Mem} (hN : NetOk σ) {q : Int} (hq : mk24 q) : CI l D cs idsF ad yX1_capacityOut cX1_capacityOut 4 .int 1 [(.ref (ad (b + 6, 1))), (jI q)] σ (fun z τ => τ = σ ∧ z = sm (coF σ b q) (σ (0, 1) 0).toNat) := by
  refine CI.of RX1 hap idsF_nd (by decide) rfl (Nat.le_of_ble_eq_true rfl) ?_
  intro pg ev s0 mi av bl mt cd X K hr
  have hA := hN.2.1
  have hn := hN.1
  refine zr_iconst X dX1_capacityOut_0 ?_
  refine zr_istoren X dX1_capacityOut_1 (by decide) rfl ?_
  refine zr_iconst X dX1_capacityOut_2 ?_
  refine zr_istoren X dX1_capacityOut_3 (by decide) rfl ?_
  have loop_4 : ∀ (n_4 : Nat) (i : Int) (y : Int), ((0 ≤ i ∧ i ≤ σ (0, 1) 0) ∧ y = sm (coF σ b q) i.toNat) → (σ (0, 1) 0 - i).toNat < n_4 → Wx pg l ev (rmm 1 0 0) s0 mi av bl mt cd D cs idsF ad (Rg idsF ad) s0.heap 4 (MQ bl (qI D cs idsF ad ((fun z τ => τ = σ ∧ z = sm (coF σ b q) (σ (0, 1) 0).toNat))) av s0 0 0 (Rg idsF ad)) 0 0 σ 4 [some (.ref (ad (b + 6, 1))), some (jI q), some (jI y), some (jI i)] [] := by
    intro n_4
    induction n_4 with
    | zero => exact fun i y hinv hn => absurd hn (Nat.not_lt_zero _)
    | succ n_4 ih_4 =>
      intro i y hI_4 hn_4
      have hi0 := hI_4.1
      have hy := hI_4.2
      refine zr_iloadn X dX1_capacityOut_4 rfl ?_
      refine zr_aloadn X dX1_capacityOut_5 rfl ?_
      refine zr_get X K (C := RX1) (T := TX1) (N := 3) (k := 0) (mB hb (by decide)) rfl rfl ti_1 (by decide) rfl tw_80 rfl dX1_capacityOut_6 ?_
      refine zr_getN X K (C := RX4) (T := TX4) (N := 6) (k := 1) mF_0_0 rfl rfl ti_4 (by decide) rfl tn_40 rfl dX1_capacityOut_9 ?_
      refine zr_icmp_ge X 62 dX1_capacityOut_12 (by decide) ⟨by omega, by omega⟩ ⟨by omega, by omega⟩ (fun t_12 => ?_) (fun f_12 => ?_)
      · refine zr_iloadn X dX1_capacityOut_62 rfl ?_
        refine zr_iret X hr dX1_capacityOut_63 ?_
        exact ⟨rfl, by rw [hy, show i = σ (0, 1) 0 by omega]⟩
      · have hi : 0 ≤ i ∧ i < σ (0, 1) 0 := ⟨by omega, by omega⟩
        have ht := (hN.2.2 i hi.1 hi.2).1
        have hh := (hN.2.2 i hi.1 hi.2).2.1
        refine zr_iloadn X dX1_capacityOut_15 rfl ?_
        refine zr_aloadn X dX1_capacityOut_16 rfl ?_
        refine zr_get X K (C := RX1) (T := TX1) (N := 3) (k := 0) (mB hb (by decide)) rfl rfl ti_1 (by decide) rfl tw_80 rfl dX1_capacityOut_17 ?_
        refine zr_getN X K (C := RX4) (T := TX4) (N := 6) (k := 2) mF_0_0 rfl rfl ti_4 (by decide) rfl tn_43 rfl dX1_capacityOut_20 ?_
        refine zr_iloadn X dX1_capacityOut_23 rfl ?_
        refine zr_iald X K (n := 80) mF_0_2 rfl (by decide) (by omega) dX1_capacityOut_24 ?_
        refine zr_callSNI X K (st := []) (c_X6_contains l D cs ad hap (m := q) (v := σ (0, 2) i) ⟨hq.1, by have := hq.2; omega⟩ ⟨by omega, by omega⟩) ⟨tn_474, tw_467, tw_1, tw_468⟩ dc_X6_contains rfl rfl (Nat.le_of_ble_eq_true rfl) (by decide) dX1_capacityOut_25 ?_
        intro z_ τ_ hp_
        obtain ⟨hτ_, hz_⟩ := hp_
        subst τ_
        subst z_
        refine zr_if_eq X 56 dX1_capacityOut_28 (by decide) ite01 (fun t_28 => ?_) (fun f_28 => ?_)
        · refine zr_iinc X dX1_capacityOut_56 rfl (by decide) rfl ?_
          refine zr_goto X 4 dX1_capacityOut_59 (by decide) ?_
          refine Wx.weak (lo' := [some (.ref (ad (b + 6, 1))), some (jI q), some (jI y), some (jI (i + 1))]) ⟨rfl, rfl, rfl, rfl, trivial⟩ ?_
          exact ih_4 _ _ ⟨⟨by omega, by omega⟩, by rw [sm_succ hi.1, ← hy]; unfold coF; first | simp [ite0 t_28] | simp [ite1 t_44]⟩ (by omega)
        · refine zr_iloadn X dX1_capacityOut_31 rfl ?_
          refine zr_aloadn X dX1_capacityOut_32 rfl ?_
          refine zr_get X K (C := RX1) (T := TX1) (N := 3) (k := 0) (mB hb (by decide)) rfl rfl ti_1 (by decide) rfl tw_80 rfl dX1_capacityOut_33 ?_
          refine zr_getN X K (C := RX4) (T := TX4) (N := 6) (k := 3) mF_0_0 rfl rfl ti_4 (by decide) rfl tn_48 rfl dX1_capacityOut_36 ?_
          refine zr_iloadn X dX1_capacityOut_39 rfl ?_
          refine zr_iald X K (n := 80) mF_0_3 rfl (by decide) (by omega) dX1_capacityOut_40 ?_
          refine zr_callSNI X K (st := []) (c_X6_contains l D cs ad hap (m := q) (v := σ (0, 3) i) ⟨hq.1, by have := hq.2; omega⟩ ⟨by omega, by omega⟩) ⟨tn_474, tw_467, tw_1, tw_468⟩ dc_X6_contains rfl rfl (Nat.le_of_ble_eq_true rfl) (by decide) dX1_capacityOut_41 ?_
          intro z_ τ_ hp_
          obtain ⟨hτ_, hz_⟩ := hp_
          subst τ_
          subst z_
          refine zr_if_ne X 56 dX1_capacityOut_44 (by decide) ite01 (fun t_44 => ?_) (fun f_44 => ?_)
          · refine zr_iinc X dX1_capacityOut_56 rfl (by decide) rfl ?_
            refine zr_goto X 4 dX1_capacityOut_59 (by decide) ?_
            refine Wx.weak (lo' := [some (.ref (ad (b + 6, 1))), some (jI q), some (jI y), some (jI (i + 1))]) ⟨rfl, rfl, rfl, rfl, trivial⟩ ?_
            exact ih_4 _ _ ⟨⟨by omega, by omega⟩, by rw [sm_succ hi.1, ← hy]; unfold coF; first | simp [ite0 t_28] | simp [ite1 t_44]⟩ (by omega)
          · refine zr_iloadn X dX1_capacityOut_47 rfl ?_
            refine zr_aloadn X dX1_capacityOut_48 rfl ?_
            refine zr_get X K (C := RX1) (T := TX1) (N := 3) (k := 1) (mB hb (by decide)) rfl rfl ti_1 (by decide) rfl tw_81 rfl dX1_capacityOut_49 ?_
            refine zr_iloadn X dX1_capacityOut_52 rfl ?_
            refine zr_iald X K (n := 80) (mB hb (by decide)) rfl (by decide) (by omega) dX1_capacityOut_53 ?_
            refine zr_iadd X dX1_capacityOut_54 ?_
            refine zr_istoren X dX1_capacityOut_55 (by decide) rfl ?_
            refine zr_iinc X dX1_capacityOut_56 rfl (by decide) rfl ?_
            refine zr_goto X 4 dX1_capacityOut_59 (by decide) ?_
            refine Wx.weak (lo' := [some (.ref (ad (b + 6, 1))), some (jI q), some (jI (y + (σ (b + 6, 2) i))), some (jI (i + 1))]) ⟨rfl, rfl, rfl, rfl, trivial⟩ ?_
            exact ih_4 _ _ ⟨⟨by omega, by omega⟩, by rw [sm_succ hi.1, ← hy]; unfold coF; simp [ite1 f_28, ite0 f_44]⟩ (by omega)
  refine Wx.weak (lo' := [some (.ref (ad (b + 6, 1))), some (jI q), some (jI 0), some (jI 0)]) ⟨rfl, rfl, rfl, rfl, trivial⟩ ?_
  exact loop_4 _ _ _ ⟨⟨by omega, by omega⟩, rfl⟩ (Nat.lt_succ_self _)
