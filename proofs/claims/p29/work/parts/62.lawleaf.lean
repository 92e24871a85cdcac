/-! THE LAW'S LEAVES -/

theorem dc_L_below : dcl yL_below 2 := ⟨by decide, by decide, by decide +kernel⟩
theorem dc_L_cell : dcl yL_cell 2 := ⟨by decide, by decide, by decide +kernel⟩
theorem dc_L_cutCapacity : dcl yL_cutCapacity 4 := ⟨by decide, by decide, by decide +kernel⟩
theorem dc_L_build : dcl yL_build 8 := ⟨by decide, by decide, by decide +kernel⟩
theorem dc_P_addNode : dcl yX6_addNode 0 := ⟨by decide, by decide, by decide +kernel⟩
theorem dc_P_addArc : dcl yX6_addArc 3 := ⟨by decide, by decide, by decide +kernel⟩
theorem dc_P_setCapacity : dcl yX6_setCapacity 2 := ⟨by decide, by decide, by decide +kernel⟩
theorem dc_P_scale : dcl yX6_scale 2 := ⟨by decide, by decide, by decide +kernel⟩
theorem dc_P_setEnds : dcl yX6_setEnds 2 := ⟨by decide, by decide, by decide +kernel⟩
theorem dc_P_maximum : dcl yX6_maximum 0 := ⟨by decide, by decide, by decide +kernel⟩
theorem dc_P_maximumWith : dcl yX6_maximumWith 2 := ⟨by decide, by decide, by decide +kernel⟩
theorem dc_P_maximumBetween : dcl yX6_maximumBetween 2 := ⟨by decide, by decide, by decide +kernel⟩
theorem dc_P_leastFlow : dcl yX6_leastFlow 1 := ⟨by decide, by decide, by decide +kernel⟩
theorem dc_P_greatestFlow : dcl yX6_greatestFlow 1 := ⟨by decide, by decide, by decide +kernel⟩
theorem dc_P_cutCapacity : dcl yX6_cutCapacity 1 := ⟨by decide, by decide, by decide +kernel⟩
theorem dc_P_smallestCut : dcl yX6_smallestCut 0 := ⟨by decide, by decide, by decide +kernel⟩
theorem dc_P_greatestCut : dcl yX6_greatestCut 0 := ⟨by decide, by decide, by decide +kernel⟩
set_option maxHeartbeats 4000000 in
set_option maxRecDepth 100000 in
theorem c_L_below (l : Launch) (D : va_G) (cs : Nat → ClassId) (ad : Ix → Nat) (hap : Apart idsM ad) {σ : Mem} {x : Int32} {n : Int} (hn : 0 < n ∧ n < 1000) : CI l D cs idsM ad yL_below cL_below 2 .int 0 [(.int (x)), (jI n)] σ (fun z τ => τ = σ ∧ (0 ≤ z ∧ z < n)) := by
  refine CI.of RL hap idsM_nd (by decide) rfl (Nat.le_of_ble_eq_true rfl) ?_
  intro pg ev s0 mi av bl mt cd X K hr
  obtain ⟨v, hv, hv0⟩ := andM x
  refine zr_iloadn X dL_below_0 rfl ?_
  refine zr_ldc (n := 2147483647) X dL_below_1 tw_504 rfl ?_
  refine zr_iand X dL_below_3 hv ?_
  refine zr_iloadn X dL_below_4 rfl ?_
  refine zr_irem X dL_below_5 (iI_ne0 ⟨hn.1, by omega⟩) (zb_rem hv0 ⟨hn.1, by omega⟩) ?_
  refine zr_iret X hr dL_below_6 ?_
  exact ⟨rfl, Int.emod_nonneg _ (by omega), Int.emod_lt_of_pos _ hn.1⟩

set_option maxHeartbeats 4000000 in
set_option maxRecDepth 100000 in
theorem c_L_cell (l : Launch) (D : va_G) (cs : Nat → ClassId) {b L : Nat} {xs : Nat → Int32} (hL : L ≤ 260) {i : Int} (hi : 0 ≤ i ∧ i < 1000) : CS l D cs yL_cell cL_cell 2 b L xs [.ref b, jI i] (fun _ => True) := by
  refine CS.of (by decide) rfl (Nat.le_of_ble_eq_true rfl) ?_
  intro pg ev s0 mi av bl mt cd X hX hbl hr σ ad
  have hbA : ¬ (fun _ : Nat => False) b := fun h => h
  refine zr_iloadn X dL_cell_0 rfl ?_
  refine zr_aloadn X dL_cell_1 rfl ?_
  refine zr_slen X hX hbl hbA dL_cell_2 ?_
  refine zr_icmp_ge X 12 dL_cell_3 (by decide) ⟨by omega, by omega⟩ ⟨by omega, by omega⟩ (fun t_3 => ?_) (fun f_3 => ?_)
  · refine zr_ldc (n := 790386105) X dL_cell_12 tw_508 rfl ?_
    refine zr_iloadn X dL_cell_14 rfl ?_
    refine zr_iconst X dL_cell_15 ?_
    refine zr_iadd X dL_cell_16 ?_
    refine zr_imul X dL_cell_17 ?_
    exact zr_sret X hr dL_cell_18 trivial
  · refine zr_aloadn X dL_cell_6 rfl ?_
    refine zr_iloadn X dL_cell_7 rfl ?_
    refine zr_sld X hX hbl hbA ⟨by omega, by omega⟩ (by omega) dL_cell_8 ?_
    refine zr_goto X 18 dL_cell_9 (by decide) ?_
    exact zr_sret X hr dL_cell_18 trivial

def cuF (σ : Mem) (q : Int) (a : Int) : Int := if bt q (σ (4, 0) a) = true ∧ ¬ bt q (σ (4, 1) a) = true then σ (4, 2) a else 0
theorem cu_rg {σ : Mem} (h : ∀ a, 0 ≤ a → a < 7 → (0 ≤ σ (4, 0) a ∧ σ (4, 0) a < 5) ∧ (0 ≤ σ (4, 1) a ∧ σ (4, 1) a < 5) ∧ 0 ≤ σ (4, 2) a ∧ σ (4, 2) a ≤ 1000000) {q i : Int} (hi : 0 ≤ i ∧ i ≤ 7) : 0 ≤ sm (cuF σ q) i.toNat ∧ sm (cuF σ q) i.toNat ≤ 80000000 := by
  refine ⟨sm_nn fun a a0 a1 => ?_, sm_80 (by omega) fun a a0 a1 => ?_⟩
  · have := h a a0 (by omega)
    unfold cuF
    split <;> omega
  · have := h a a0 (by omega)
    unfold cuF
    split <;> omega

set_option maxHeartbeats 4000000 in
set_option maxRecDepth 100000 in
theorem c_L_cut (l : Launch) (D : va_G) (cs : Nat → ClassId) (ad : Ix → Nat) (hap : Apart idsM ad) {σ : Mem} {q : Int} (hq : 0 ≤ q ∧ q < 32) (h : ∀ a, 0 ≤ a → a < 7 → (0 ≤ σ (4, 0) a ∧ σ (4, 0) a < 5) ∧ (0 ≤ σ (4, 1) a ∧ σ (4, 1) a < 5) ∧ 0 ≤ σ (4, 2) a ∧ σ (4, 2) a ≤ 1000000) : CI l D cs idsM ad yL_cutCapacity cL_cutCapacity 6 .int 0 [(jI q), (.ref (ad (4, 0))), (.ref (ad (4, 1))), (.ref (ad (4, 2)))] σ (fun z τ => τ = σ ∧ z = cpL σ q) := by
  refine CI.of RL hap idsM_nd (by decide) rfl (Nat.le_of_ble_eq_true rfl) ?_
  intro pg ev s0 mi av bl mt cd X K hr
  refine zr_iconst X dL_cutCapacity_0 ?_
  refine zr_istore X dL_cutCapacity_1 (by decide) rfl ?_
  refine zr_iconst X dL_cutCapacity_3 ?_
  refine zr_istore X dL_cutCapacity_4 (by decide) rfl ?_
  have loop_6 : ∀ (n_6 : Nat) (x : Int) (i : Int), ((0 ≤ i ∧ i ≤ 7) ∧ x = sm (cuF σ q) i.toNat) → (7 - i).toNat < n_6 → Wx pg l ev (rmm 0 0 0) s0 mi av bl mt cd D cs idsM ad (Rg idsM ad) s0.heap 6 (MQ bl (qI D cs idsM ad ((fun z τ => τ = σ ∧ z = cpL σ q))) av s0 0 0 (Rg idsM ad)) 0 0 σ 6 [some (jI q), some (.ref (ad (4, 0))), some (.ref (ad (4, 1))), some (.ref (ad (4, 2))), some (jI x), some (jI i)] [] := by
    intro n_6
    induction n_6 with
    | zero => exact fun x i hinv hn => absurd hn (Nat.not_lt_zero _)
    | succ n_6 ih_6 =>
      intro x i hI_6 hn_6
      have hi0 := hI_6.1
      have hx := hI_6.2
      refine zr_iload X dL_cutCapacity_6 rfl ?_
      refine zr_aloadn X dL_cutCapacity_8 rfl ?_
      refine zr_alen X K (n := 7) mM_0 rfl dL_cutCapacity_9 ?_
      refine zr_icmp_ge X 55 dL_cutCapacity_10 (by decide) ⟨by omega, by omega⟩ ⟨by omega, by omega⟩ (fun t_10 => ?_) (fun f_10 => ?_)
      · refine zr_iload X dL_cutCapacity_55 rfl ?_
        refine zr_iret X hr dL_cutCapacity_57 ?_
        refine ⟨rfl, ?_⟩
        rw [hx, show i = 7 by omega]
        rfl
      · have hi : 0 ≤ i ∧ i < 7 := ⟨by omega, by omega⟩
        obtain ⟨ht, hh, hc⟩ := h i hi.1 hi.2
        refine zr_iload X dL_cutCapacity_13 rfl ?_
        refine zr_iloadn X dL_cutCapacity_15 rfl ?_
        refine zr_aloadn X dL_cutCapacity_16 rfl ?_
        refine zr_iload X dL_cutCapacity_17 rfl ?_
        refine zr_iald X K (n := 7) mM_0 rfl (by decide) (by omega) dL_cutCapacity_19 ?_
        refine zr_ishr X dL_cutCapacity_20 (zb_shr hq.1 (by omega) ht.1 (by omega)) ?_
        refine zr_iconst X dL_cutCapacity_21 ?_
        refine zr_iand X dL_cutCapacity_22 ((zb_and1 (sI_rg (by omega)).1 (sI_rg (by omega)).2).trans (congrArg iI sI_mod)) ?_
        refine zr_iconst X dL_cutCapacity_23 ?_
        refine zr_icmp_ne X 45 dL_cutCapacity_24 (by decide) ite01 ⟨by decide, by decide⟩ (fun t_24 => ?_) (fun f_24 => ?_)
        · refine zr_iconst X dL_cutCapacity_45 ?_
          refine zr_iadd X dL_cutCapacity_46 ?_
          refine zr_istore X dL_cutCapacity_47 (by decide) rfl ?_
          refine zr_iinc X dL_cutCapacity_49 rfl (by decide) rfl ?_
          refine zr_goto X 6 dL_cutCapacity_52 (by decide) ?_
          refine Wx.weak (lo' := [some (jI q), some (.ref (ad (4, 0))), some (.ref (ad (4, 1))), some (.ref (ad (4, 2))), some (jI (x + 0)), some (jI (i + 1))]) ⟨rfl, rfl, rfl, rfl, rfl, rfl, trivial⟩ ?_
          exact ih_6 _ _ ⟨⟨by omega, by omega⟩, by rw [sm_succ hi.1, ← hx]; unfold cuF; first | rw [if_neg (fun g => n_ite1 t_24 g.1)] | rw [if_neg (fun g => g.2 (ite1 t_35))]⟩ (by omega)
        · refine zr_iloadn X dL_cutCapacity_27 rfl ?_
          refine zr_aloadn X dL_cutCapacity_28 rfl ?_
          refine zr_iload X dL_cutCapacity_29 rfl ?_
          refine zr_iald X K (n := 7) mM_1 rfl (by decide) (by omega) dL_cutCapacity_31 ?_
          refine zr_ishr X dL_cutCapacity_32 (zb_shr hq.1 (by omega) hh.1 (by omega)) ?_
          refine zr_iconst X dL_cutCapacity_33 ?_
          refine zr_iand X dL_cutCapacity_34 ((zb_and1 (sI_rg (by omega)).1 (sI_rg (by omega)).2).trans (congrArg iI sI_mod)) ?_
          refine zr_if_ne X 45 dL_cutCapacity_35 (by decide) ite01 (fun t_35 => ?_) (fun f_35 => ?_)
          · refine zr_iconst X dL_cutCapacity_45 ?_
            refine zr_iadd X dL_cutCapacity_46 ?_
            refine zr_istore X dL_cutCapacity_47 (by decide) rfl ?_
            refine zr_iinc X dL_cutCapacity_49 rfl (by decide) rfl ?_
            refine zr_goto X 6 dL_cutCapacity_52 (by decide) ?_
            refine Wx.weak (lo' := [some (jI q), some (.ref (ad (4, 0))), some (.ref (ad (4, 1))), some (.ref (ad (4, 2))), some (jI (x + 0)), some (jI (i + 1))]) ⟨rfl, rfl, rfl, rfl, rfl, rfl, trivial⟩ ?_
            exact ih_6 _ _ ⟨⟨by omega, by omega⟩, by rw [sm_succ hi.1, ← hx]; unfold cuF; first | rw [if_neg (fun g => n_ite1 t_24 g.1)] | rw [if_neg (fun g => g.2 (ite1 t_35))]⟩ (by omega)
          · refine zr_aloadn X dL_cutCapacity_38 rfl ?_
            refine zr_iload X dL_cutCapacity_39 rfl ?_
            refine zr_iald X K (n := 7) mM_2 rfl (by decide) (by omega) dL_cutCapacity_41 ?_
            refine zr_goto X 46 dL_cutCapacity_42 (by decide) ?_
            refine zr_iadd X dL_cutCapacity_46 ?_
            refine zr_istore X dL_cutCapacity_47 (by decide) rfl ?_
            refine zr_iinc X dL_cutCapacity_49 rfl (by decide) rfl ?_
            refine zr_goto X 6 dL_cutCapacity_52 (by decide) ?_
            refine Wx.weak (lo' := [some (jI q), some (.ref (ad (4, 0))), some (.ref (ad (4, 1))), some (.ref (ad (4, 2))), some (jI (x + (σ (4, 2) i))), some (jI (i + 1))]) ⟨rfl, rfl, rfl, rfl, rfl, rfl, trivial⟩ ?_
            exact ih_6 _ _ ⟨⟨by omega, by omega⟩, by rw [sm_succ hi.1, ← hx]; unfold cuF; rw [if_pos ⟨ite11 f_24, ite0 f_35⟩]⟩ (by omega)
  refine Wx.weak (lo' := [some (jI q), some (.ref (ad (4, 0))), some (.ref (ad (4, 1))), some (.ref (ad (4, 2))), some (jI 0), some (jI 0)]) ⟨rfl, rfl, rfl, rfl, rfl, rfl, trivial⟩ ?_
  exact loop_6 _ _ _ ⟨⟨by omega, by omega⟩, rfl⟩ (Nat.lt_succ_self _)

