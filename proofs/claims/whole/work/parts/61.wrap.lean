/-! THE LAW'S METHODS THAT CATCH -/
def wPost (Post : Int → Mem → Prop) (XP : String → Prop) (cd : List (String × Int)) (σ : Mem) : Int → Mem → Prop := fun z τ => (z = 0 ∧ ∃ w τ', Post w τ' ∧ τ = mset τ' (5, 0) 0 (iI w).toInt) ∨ ∃ E, XP E ∧ (E, z) ∈ cd ∧ τ = σ
def wPostD (Post : UInt64 → Mem → Prop) (XP : String → Prop) (cd : List (String × Int)) (σ : Mem) : Int → Mem → Prop := fun z τ => (z = 0 ∧ ∃ w τ', Post w τ' ∧ τ = mset τ' (5, 1) 0 (w.toNat : Int)) ∨ ∃ E, XP E ∧ (E, z) ∈ cd ∧ τ = σ
theorem o50 : ((5, 0) : Ix) ∈ idsA := by decide +kernel
theorem o51 : ((5, 1) : Ix) ∈ idsA := by decide +kernel

theorem hd_addNode_0 : Hd [(0, 8, 11, 13)] 3 ISE 11 := ⟨tn_321, [], (0, 8, 11, 13), [], rfl, rfl, by decide, by decide, tw_314, fun _ h => by cases h⟩
theorem dc_L_addNode : dcl yL_addNode 2 := ⟨by decide, by decide, by decide +kernel⟩
theorem dc_LX6_addNode : dcl yX6_addNode 0 := ⟨by decide, by decide, by decide +kernel⟩
set_option maxHeartbeats 4000000 in
set_option maxRecDepth 100000 in
theorem w_addNode (l : Launch) (D : va_G) (cs : Nat → ClassId) (ad : Ix → Nat) (hap : Apart idsA ad) {σ : Mem}  {Post : Int → Mem → Prop} {XP : String → Prop} (hC : ∀ sz', CXI l D cs idsF ad yX6_addNode cX6_addNode 1 .int 7 8 48 sz' [(.ref (ad (3, 7)))] σ Post XP) (h45 : ∀ z τ, Post z τ → g45 σ τ) (hx : ∀ E, XP E → E = ISE) (sz : Nat) : CW l D cs ad yL_addNode cL_addNode 3 [(0, 8, 11, 13)] sz [(.ref (ad (3, 7))), (.ref (ad (5, 0)))] σ (wPost Post XP [(ISE, 1)] σ) := by
  refine CW.of hap (by decide) rfl (Nat.le_of_ble_eq_true rfl) ?_
  intro pg ev s0 mi av bl mt cdx X K hZ hA hT hr
  refine zr_aloadn X dL_addNode_0 rfl ?_
  refine zr_iconst X dL_addNode_1 ?_
  refine zr_aloadn X dL_addNode_2 rfl ?_
  refine zr_wcallI X K hZ hA hT (As := []) (st := [(jI 0), (.ref (ad (5, 0)))]) hC ⟨tw_315, tw_316, tw_317, tw_1, tw_318⟩ dc_LX6_addNode rfl rfl rfl (Nat.le_of_ble_eq_true rfl) (by decide) dL_addNode_3 h45 (fun E q9 hE => ?_) (fun z τ hp => ?_)
  · have hE1 := hx E hE
    rcases hE1 with rfl
    · refine ⟨11, hd_addNode_0, ?_⟩
      refine zr_astoren X dL_addNode_11 (by decide) rfl ?_
      refine zr_iconst X dL_addNode_12 ?_
      exact zr_wret X ⟨by decide, by decide⟩ hr dL_addNode_13 (Or.inr ⟨_, hE, by decide +kernel, rfl⟩)
  · show Wx pg l ev (rmm 8 8 48) s0 mi av bl mt cdx D cs idsA ad (RgN idsA ad sz) s0.heap 3 (vx_MQ bl (qXI D cs idsA ad sz (wPost Post XP [(ISE, 1)] σ)) (xNo ad sz) av s0 8 48 (RgN idsA ad sz)) 8 48 τ 6 [some (.ref (ad (3, 7))), some (.ref (ad (5, 0))), none] [(jI z), (jI 0), (.ref (ad (5, 0)))]
    refine zr_i2lw X dL_addNode_6 ?_
    refine zr_lastw X K o50 dL_addNode_7 ?_
    refine zr_goto X 14 dL_addNode_8 (by decide) ?_
    refine zr_iconst X dL_addNode_14 ?_
    exact zr_wret X ⟨by decide, by decide⟩ hr dL_addNode_15 (Or.inl ⟨rfl, z, τ, hp, rfl⟩)

theorem hd_addArc_0 : Hd [(0, 12, 15, 19), (0, 12, 19, 21), (0, 12, 23, 13)] 7 IOB 15 := ⟨tn_406, [], (0, 12, 15, 19), [(0, 12, 19, 21), (0, 12, 23, 13)], rfl, rfl, by decide, by decide, tw_394, fun _ h => by cases h⟩
theorem hd_addArc_1 : Hd [(0, 12, 15, 19), (0, 12, 19, 21), (0, 12, 23, 13)] 7 IAE 19 := ⟨tn_425, [(0, 12, 15, 19)], (0, 12, 19, 21), [(0, 12, 23, 13)], rfl, rfl, by decide, by decide, tw_395, List.forall_mem_cons.mpr ⟨⟨by decide, _, tw_394, by decide +kernel⟩, fun _ h => by cases h⟩⟩
theorem hd_addArc_2 : Hd [(0, 12, 15, 19), (0, 12, 19, 21), (0, 12, 23, 13)] 7 ISE 23 := ⟨tn_321, [(0, 12, 15, 19), (0, 12, 19, 21)], (0, 12, 23, 13), [], rfl, rfl, by decide, by decide, tw_314, List.forall_mem_cons.mpr ⟨⟨by decide, _, tw_394, by decide +kernel⟩, List.forall_mem_cons.mpr ⟨⟨by decide, _, tw_395, by decide +kernel⟩, fun _ h => by cases h⟩⟩⟩
theorem dc_L_addArc : dcl yL_addArc 5 := ⟨by decide, by decide, by decide +kernel⟩
theorem dc_LX6_addArc : dcl yX6_addArc 3 := ⟨by decide, by decide, by decide +kernel⟩
set_option maxHeartbeats 4000000 in
set_option maxRecDepth 100000 in
theorem w_addArc (l : Launch) (D : va_G) (cs : Nat → ClassId) (ad : Ix → Nat) (hap : Apart idsA ad) {σ : Mem} {a1 : Int} {a2 : Int} {a3 : Int} {Post : Int → Mem → Prop} {XP : String → Prop} (hC : ∀ sz', CXI l D cs idsF ad yX6_addArc cX6_addArc 5 .int 7 8 48 sz' [(.ref (ad (3, 7))), (jI a1), (jI a2), (jI a3)] σ Post XP) (h45 : ∀ z τ, Post z τ → g45 σ τ) (hx : ∀ E, XP E → E = IOB ∨ E = IAE ∨ E = ISE) (sz : Nat) : CW l D cs ad yL_addArc cL_addArc 6 [(0, 12, 15, 19), (0, 12, 19, 21), (0, 12, 23, 13)] sz [(.ref (ad (3, 7))), (jI a1), (jI a2), (jI a3), (.ref (ad (5, 0)))] σ (wPost Post XP [(IOB, 1), (IAE, 2), (ISE, 3)] σ) := by
  refine CW.of hap (by decide) rfl (Nat.le_of_ble_eq_true rfl) ?_
  intro pg ev s0 mi av bl mt cdx X K hZ hA hT hr
  refine zr_aload X dL_addArc_0 rfl ?_
  refine zr_iconst X dL_addArc_2 ?_
  refine zr_aloadn X dL_addArc_3 rfl ?_
  refine zr_iloadn X dL_addArc_4 rfl ?_
  refine zr_iloadn X dL_addArc_5 rfl ?_
  refine zr_iloadn X dL_addArc_6 rfl ?_
  refine zr_wcallI X K hZ hA hT (As := [(jI a1), (jI a2), (jI a3)]) (st := [(jI 0), (.ref (ad (5, 0)))]) hC ⟨tw_396, tw_397, tw_398, tw_1, tw_399⟩ dc_LX6_addArc rfl rfl rfl (Nat.le_of_ble_eq_true rfl) (by decide) dL_addArc_7 h45 (fun E q9 hE => ?_) (fun z τ hp => ?_)
  · have hE1 := hx E hE
    rcases hE1 with rfl | rfl | rfl
    · refine ⟨15, hd_addArc_0, ?_⟩
      refine zr_astore X dL_addArc_15 (by decide) rfl ?_
      refine zr_iconst X dL_addArc_17 ?_
      exact zr_wret X ⟨by decide, by decide⟩ hr dL_addArc_18 (Or.inr ⟨_, hE, by decide +kernel, rfl⟩)
    · refine ⟨19, hd_addArc_1, ?_⟩
      refine zr_astore X dL_addArc_19 (by decide) rfl ?_
      refine zr_iconst X dL_addArc_21 ?_
      exact zr_wret X ⟨by decide, by decide⟩ hr dL_addArc_22 (Or.inr ⟨_, hE, by decide +kernel, rfl⟩)
    · refine ⟨23, hd_addArc_2, ?_⟩
      refine zr_astore X dL_addArc_23 (by decide) rfl ?_
      refine zr_iconst X dL_addArc_25 ?_
      exact zr_wret X ⟨by decide, by decide⟩ hr dL_addArc_26 (Or.inr ⟨_, hE, by decide +kernel, rfl⟩)
  · show Wx pg l ev (rmm 8 8 48) s0 mi av bl mt cdx D cs idsA ad (RgN idsA ad sz) s0.heap 6 (vx_MQ bl (qXI D cs idsA ad sz (wPost Post XP [(IOB, 1), (IAE, 2), (ISE, 3)] σ)) (xNo ad sz) av s0 8 48 (RgN idsA ad sz)) 8 48 τ 10 [some (.ref (ad (3, 7))), some (jI a1), some (jI a2), some (jI a3), some (.ref (ad (5, 0))), none] [(jI z), (jI 0), (.ref (ad (5, 0)))]
    refine zr_i2lw X dL_addArc_10 ?_
    refine zr_lastw X K o50 dL_addArc_11 ?_
    refine zr_goto X 27 dL_addArc_12 (by decide) ?_
    refine zr_iconst X dL_addArc_27 ?_
    exact zr_wret X ⟨by decide, by decide⟩ hr dL_addArc_28 (Or.inl ⟨rfl, z, τ, hp, rfl⟩)

theorem hd_setCapacity_0 : Hd [(0, 10, 13, 19), (0, 10, 17, 21)] 5 IOB 13 := ⟨tn_406, [], (0, 10, 13, 19), [(0, 10, 17, 21)], rfl, rfl, by decide, by decide, tw_394, fun _ h => by cases h⟩
theorem hd_setCapacity_1 : Hd [(0, 10, 13, 19), (0, 10, 17, 21)] 5 IAE 17 := ⟨tn_425, [(0, 10, 13, 19)], (0, 10, 17, 21), [], rfl, rfl, by decide, by decide, tw_395, List.forall_mem_cons.mpr ⟨⟨by decide, _, tw_394, by decide +kernel⟩, fun _ h => by cases h⟩⟩
theorem dc_L_setCapacity : dcl yL_setCapacity 4 := ⟨by decide, by decide, by decide +kernel⟩
theorem dc_LX6_setCapacity : dcl yX6_setCapacity 2 := ⟨by decide, by decide, by decide +kernel⟩
set_option maxHeartbeats 4000000 in
set_option maxRecDepth 100000 in
theorem w_setCapacity (l : Launch) (D : va_G) (cs : Nat → ClassId) (ad : Ix → Nat) (hap : Apart idsA ad) {σ : Mem} {a1 : Int} {a2 : Int} {Post : Int → Mem → Prop} {XP : String → Prop} (hC : ∀ sz', CXI l D cs idsF ad yX6_setCapacity cX6_setCapacity 4 .int 7 8 48 sz' [(.ref (ad (3, 7))), (jI a1), (jI a2)] σ Post XP) (h45 : ∀ z τ, Post z τ → g45 σ τ) (hx : ∀ E, XP E → E = IOB ∨ E = IAE) (sz : Nat) : CW l D cs ad yL_setCapacity cL_setCapacity 5 [(0, 10, 13, 19), (0, 10, 17, 21)] sz [(.ref (ad (3, 7))), (jI a1), (jI a2), (.ref (ad (5, 0)))] σ (wPost Post XP [(IOB, 1), (IAE, 2)] σ) := by
  refine CW.of hap (by decide) rfl (Nat.le_of_ble_eq_true rfl) ?_
  intro pg ev s0 mi av bl mt cdx X K hZ hA hT hr
  refine zr_aloadn X dL_setCapacity_0 rfl ?_
  refine zr_iconst X dL_setCapacity_1 ?_
  refine zr_aloadn X dL_setCapacity_2 rfl ?_
  refine zr_iloadn X dL_setCapacity_3 rfl ?_
  refine zr_iloadn X dL_setCapacity_4 rfl ?_
  refine zr_wcallI X K hZ hA hT (As := [(jI a1), (jI a2)]) (st := [(jI 0), (.ref (ad (5, 0)))]) hC ⟨tw_464, tw_465, tw_466, tw_1, tw_467⟩ dc_LX6_setCapacity rfl rfl rfl (Nat.le_of_ble_eq_true rfl) (by decide) dL_setCapacity_5 h45 (fun E q9 hE => ?_) (fun z τ hp => ?_)
  · have hE1 := hx E hE
    rcases hE1 with rfl | rfl
    · refine ⟨13, hd_setCapacity_0, ?_⟩
      refine zr_astore X dL_setCapacity_13 (by decide) rfl ?_
      refine zr_iconst X dL_setCapacity_15 ?_
      exact zr_wret X ⟨by decide, by decide⟩ hr dL_setCapacity_16 (Or.inr ⟨_, hE, by decide +kernel, rfl⟩)
    · refine ⟨17, hd_setCapacity_1, ?_⟩
      refine zr_astore X dL_setCapacity_17 (by decide) rfl ?_
      refine zr_iconst X dL_setCapacity_19 ?_
      exact zr_wret X ⟨by decide, by decide⟩ hr dL_setCapacity_20 (Or.inr ⟨_, hE, by decide +kernel, rfl⟩)
  · show Wx pg l ev (rmm 8 8 48) s0 mi av bl mt cdx D cs idsA ad (RgN idsA ad sz) s0.heap 5 (vx_MQ bl (qXI D cs idsA ad sz (wPost Post XP [(IOB, 1), (IAE, 2)] σ)) (xNo ad sz) av s0 8 48 (RgN idsA ad sz)) 8 48 τ 8 [some (.ref (ad (3, 7))), some (jI a1), some (jI a2), some (.ref (ad (5, 0))), none] [(jI z), (jI 0), (.ref (ad (5, 0)))]
    refine zr_i2lw X dL_setCapacity_8 ?_
    refine zr_lastw X K o50 dL_setCapacity_9 ?_
    refine zr_goto X 21 dL_setCapacity_10 (by decide) ?_
    refine zr_iconst X dL_setCapacity_21 ?_
    exact zr_wret X ⟨by decide, by decide⟩ hr dL_setCapacity_22 (Or.inl ⟨rfl, z, τ, hp, rfl⟩)

theorem hd_scale_0 : Hd [(0, 11, 14, 19), (0, 11, 18, 21)] 6 IOB 14 := ⟨tn_406, [], (0, 11, 14, 19), [(0, 11, 18, 21)], rfl, rfl, by decide, by decide, tw_394, fun _ h => by cases h⟩
theorem hd_scale_1 : Hd [(0, 11, 14, 19), (0, 11, 18, 21)] 6 IAE 18 := ⟨tn_425, [(0, 11, 14, 19)], (0, 11, 18, 21), [], rfl, rfl, by decide, by decide, tw_395, List.forall_mem_cons.mpr ⟨⟨by decide, _, tw_394, by decide +kernel⟩, fun _ h => by cases h⟩⟩
theorem dc_L_scale : dcl yL_scale 4 := ⟨by decide, by decide, by decide +kernel⟩
theorem dc_LX6_scale : dcl yX6_scale 2 := ⟨by decide, by decide, by decide +kernel⟩
set_option maxHeartbeats 4000000 in
set_option maxRecDepth 100000 in
theorem w_scale (l : Launch) (D : va_G) (cs : Nat → ClassId) (ad : Ix → Nat) (hap : Apart idsA ad) {σ : Mem} {a1 : Int} {a2 : UInt64} {Post : Int → Mem → Prop} {XP : String → Prop} (hC : ∀ sz', CXI l D cs idsF ad yX6_scale cX6_scale 8 .int 7 8 48 sz' [(.ref (ad (3, 7))), (jI a1), (.double (a2))] σ Post XP) (h45 : ∀ z τ, Post z τ → g45 σ τ) (hx : ∀ E, XP E → E = IOB ∨ E = IAE) (sz : Nat) : CW l D cs ad yL_scale cL_scale 6 [(0, 11, 14, 19), (0, 11, 18, 21)] sz [(.ref (ad (3, 7))), (jI a1), (.double (a2)), (.ref (ad (5, 0)))] σ (wPost Post XP [(IOB, 1), (IAE, 2)] σ) := by
  refine CW.of hap (by decide) rfl (Nat.le_of_ble_eq_true rfl) ?_
  intro pg ev s0 mi av bl mt cdx X K hZ hA hT hr
  refine zr_aload X dL_scale_0 rfl ?_
  refine zr_iconst X dL_scale_2 ?_
  refine zr_aloadn X dL_scale_3 rfl ?_
  refine zr_iloadn X dL_scale_4 rfl ?_
  refine zr_dloadn X dL_scale_5 rfl ?_
  refine zr_wcallI X K hZ hA hT (As := [(jI a1), (.double (a2))]) (st := [(jI 0), (.ref (ad (5, 0)))]) hC ⟨tw_476, tw_477, tw_478, tw_1, tw_479⟩ dc_LX6_scale rfl rfl rfl (Nat.le_of_ble_eq_true rfl) (by decide) dL_scale_6 h45 (fun E q9 hE => ?_) (fun z τ hp => ?_)
  · have hE1 := hx E hE
    rcases hE1 with rfl | rfl
    · refine ⟨14, hd_scale_0, ?_⟩
      refine zr_astore X dL_scale_14 (by decide) rfl ?_
      refine zr_iconst X dL_scale_16 ?_
      exact zr_wret X ⟨by decide, by decide⟩ hr dL_scale_17 (Or.inr ⟨_, hE, by decide +kernel, rfl⟩)
    · refine ⟨18, hd_scale_1, ?_⟩
      refine zr_astore X dL_scale_18 (by decide) rfl ?_
      refine zr_iconst X dL_scale_20 ?_
      exact zr_wret X ⟨by decide, by decide⟩ hr dL_scale_21 (Or.inr ⟨_, hE, by decide +kernel, rfl⟩)
  · show Wx pg l ev (rmm 8 8 48) s0 mi av bl mt cdx D cs idsA ad (RgN idsA ad sz) s0.heap 6 (vx_MQ bl (qXI D cs idsA ad sz (wPost Post XP [(IOB, 1), (IAE, 2)] σ)) (xNo ad sz) av s0 8 48 (RgN idsA ad sz)) 8 48 τ 9 [some (.ref (ad (3, 7))), some (jI a1), some (.double (a2)), none, some (.ref (ad (5, 0))), none] [(jI z), (jI 0), (.ref (ad (5, 0)))]
    refine zr_i2lw X dL_scale_9 ?_
    refine zr_lastw X K o50 dL_scale_10 ?_
    refine zr_goto X 22 dL_scale_11 (by decide) ?_
    refine zr_iconst X dL_scale_22 ?_
    exact zr_wret X ⟨by decide, by decide⟩ hr dL_scale_23 (Or.inl ⟨rfl, z, τ, hp, rfl⟩)

theorem hd_setEnds_0 : Hd [(0, 17, 20, 19), (0, 17, 24, 21)] 5 IOB 20 := ⟨tn_406, [], (0, 17, 20, 19), [(0, 17, 24, 21)], rfl, rfl, by decide, by decide, tw_394, fun _ h => by cases h⟩
theorem hd_setEnds_1 : Hd [(0, 17, 20, 19), (0, 17, 24, 21)] 5 IAE 24 := ⟨tn_425, [(0, 17, 20, 19)], (0, 17, 24, 21), [], rfl, rfl, by decide, by decide, tw_395, List.forall_mem_cons.mpr ⟨⟨by decide, _, tw_394, by decide +kernel⟩, fun _ h => by cases h⟩⟩
theorem dc_L_setEnds : dcl yL_setEnds 4 := ⟨by decide, by decide, by decide +kernel⟩
theorem dc_LX6_setEnds : dcl yX6_setEnds 2 := ⟨by decide, by decide, by decide +kernel⟩
set_option maxHeartbeats 4000000 in
set_option maxRecDepth 100000 in
theorem w_setEnds (l : Launch) (D : va_G) (cs : Nat → ClassId) (ad : Ix → Nat) (hap : Apart idsA ad) {σ : Mem} {a1 : Int} {a2 : Int} {Post : Int → Mem → Prop} {XP : String → Prop} (hC : ∀ sz', CXI l D cs idsF ad yX6_setEnds cX6_setEnds 3 .boolean 7 8 48 sz' [(.ref (ad (3, 7))), (jI a1), (jI a2)] σ Post XP) (h45 : ∀ z τ, Post z τ → g45 σ τ) (hx : ∀ E, XP E → E = IOB ∨ E = IAE) (h01 : ∀ z τ, Post z τ → z = 0 ∨ z = 1) (sz : Nat) : CW l D cs ad yL_setEnds cL_setEnds 5 [(0, 17, 20, 19), (0, 17, 24, 21)] sz [(.ref (ad (3, 7))), (jI a1), (jI a2), (.ref (ad (5, 0)))] σ (wPost Post XP [(IOB, 1), (IAE, 2)] σ) := by
  refine CW.of hap (by decide) rfl (Nat.le_of_ble_eq_true rfl) ?_
  intro pg ev s0 mi av bl mt cdx X K hZ hA hT hr
  refine zr_aloadn X dL_setEnds_0 rfl ?_
  refine zr_iconst X dL_setEnds_1 ?_
  refine zr_aloadn X dL_setEnds_2 rfl ?_
  refine zr_iloadn X dL_setEnds_3 rfl ?_
  refine zr_iloadn X dL_setEnds_4 rfl ?_
  refine zr_wcallI X K hZ hA hT (As := [(jI a1), (jI a2)]) (st := [(jI 0), (.ref (ad (5, 0)))]) hC ⟨tw_493, tw_494, tw_495, tw_1, tw_496⟩ dc_LX6_setEnds rfl rfl rfl (Nat.le_of_ble_eq_true rfl) (by decide) dL_setEnds_5 h45 (fun E q9 hE => ?_) (fun z τ hp => ?_)
  · have hE1 := hx E hE
    rcases hE1 with rfl | rfl
    · refine ⟨20, hd_setEnds_0, ?_⟩
      refine zr_astore X dL_setEnds_20 (by decide) rfl ?_
      refine zr_iconst X dL_setEnds_22 ?_
      exact zr_wret X ⟨by decide, by decide⟩ hr dL_setEnds_23 (Or.inr ⟨_, hE, by decide +kernel, rfl⟩)
    · refine ⟨24, hd_setEnds_1, ?_⟩
      refine zr_astore X dL_setEnds_24 (by decide) rfl ?_
      refine zr_iconst X dL_setEnds_26 ?_
      exact zr_wret X ⟨by decide, by decide⟩ hr dL_setEnds_27 (Or.inr ⟨_, hE, by decide +kernel, rfl⟩)
  · show Wx pg l ev (rmm 8 8 48) s0 mi av bl mt cdx D cs idsA ad (RgN idsA ad sz) s0.heap 5 (vx_MQ bl (qXI D cs idsA ad sz (wPost Post XP [(IOB, 1), (IAE, 2)] σ)) (xNo ad sz) av s0 8 48 (RgN idsA ad sz)) 8 48 τ 8 [some (.ref (ad (3, 7))), some (jI a1), some (jI a2), some (.ref (ad (5, 0))), none] [(jI z), (jI 0), (.ref (ad (5, 0)))]
    have hz01 := h01 _ _ hp
    refine zr_if_eq X 15 dL_setEnds_8 (by decide) (by rcases hz01 with q | q <;> rw [q] <;> exact ⟨by decide, by decide⟩) (fun t_ => ?_) (fun f_ => ?_)
    · skip
      refine zr_lconst X dL_setEnds_15 ?_
      refine zr_lastw X K (z := 0) o50 dL_setEnds_16 ?_
      refine zr_goto X 28 dL_setEnds_17 (by decide) ?_
      refine zr_iconst X dL_setEnds_28 ?_
      exact zr_wret X ⟨by decide, by decide⟩ hr dL_setEnds_29 (Or.inl ⟨rfl, z, τ, hp, by have : z = 0 := (by first | exact t_ | (rcases hz01 with q | q; exact absurd q f_; exact q)); rw [this]; rfl⟩)
    · skip
      refine zr_lconst X dL_setEnds_11 ?_
      refine zr_goto X 16 dL_setEnds_12 (by decide) ?_
      refine zr_lastw X K (z := 1) o50 dL_setEnds_16 ?_
      refine zr_goto X 28 dL_setEnds_17 (by decide) ?_
      refine zr_iconst X dL_setEnds_28 ?_
      exact zr_wret X ⟨by decide, by decide⟩ hr dL_setEnds_29 (Or.inl ⟨rfl, z, τ, hp, by have : z = 1 := (by first | exact t_ | (rcases hz01 with q | q; exact absurd q f_; exact q)); rw [this]; rfl⟩)

theorem hd_capacity_0 : Hd [(0, 9, 12, 19)] 4 IOB 12 := ⟨tn_406, [], (0, 9, 12, 19), [], rfl, rfl, by decide, by decide, tw_394, fun _ h => by cases h⟩
theorem dc_L_capacity : dcl yL_capacity 3 := ⟨by decide, by decide, by decide +kernel⟩
theorem dc_LX6_capacity : dcl yX6_capacity 1 := ⟨by decide, by decide, by decide +kernel⟩
set_option maxHeartbeats 4000000 in
set_option maxRecDepth 100000 in
theorem w_capacity (l : Launch) (D : va_G) (cs : Nat → ClassId) (ad : Ix → Nat) (hap : Apart idsA ad) {σ : Mem} {a1 : Int} {Post : Int → Mem → Prop} {XP : String → Prop} (hC : ∀ sz', CXI l D cs idsF ad yX6_capacity cX6_capacity 2 .int 7 8 48 sz' [(.ref (ad (3, 7))), (jI a1)] σ Post XP) (h45 : ∀ z τ, Post z τ → g45 σ τ) (hx : ∀ E, XP E → E = IOB) (sz : Nat) : CW l D cs ad yL_capacity cL_capacity 4 [(0, 9, 12, 19)] sz [(.ref (ad (3, 7))), (jI a1), (.ref (ad (5, 0)))] σ (wPost Post XP [(IOB, 1)] σ) := by
  refine CW.of hap (by decide) rfl (Nat.le_of_ble_eq_true rfl) ?_
  intro pg ev s0 mi av bl mt cdx X K hZ hA hT hr
  refine zr_aloadn X dL_capacity_0 rfl ?_
  refine zr_iconst X dL_capacity_1 ?_
  refine zr_aloadn X dL_capacity_2 rfl ?_
  refine zr_iloadn X dL_capacity_3 rfl ?_
  refine zr_wcallI X K hZ hA hT (As := [(jI a1)]) (st := [(jI 0), (.ref (ad (5, 0)))]) hC ⟨tw_505, tw_506, tw_507, tw_1, tw_508⟩ dc_LX6_capacity rfl rfl rfl (Nat.le_of_ble_eq_true rfl) (by decide) dL_capacity_4 h45 (fun E q9 hE => ?_) (fun z τ hp => ?_)
  · have hE1 := hx E hE
    rcases hE1 with rfl
    · refine ⟨12, hd_capacity_0, ?_⟩
      refine zr_astoren X dL_capacity_12 (by decide) rfl ?_
      refine zr_iconst X dL_capacity_13 ?_
      exact zr_wret X ⟨by decide, by decide⟩ hr dL_capacity_14 (Or.inr ⟨_, hE, by decide +kernel, rfl⟩)
  · show Wx pg l ev (rmm 8 8 48) s0 mi av bl mt cdx D cs idsA ad (RgN idsA ad sz) s0.heap 4 (vx_MQ bl (qXI D cs idsA ad sz (wPost Post XP [(IOB, 1)] σ)) (xNo ad sz) av s0 8 48 (RgN idsA ad sz)) 8 48 τ 7 [some (.ref (ad (3, 7))), some (jI a1), some (.ref (ad (5, 0))), none] [(jI z), (jI 0), (.ref (ad (5, 0)))]
    refine zr_i2lw X dL_capacity_7 ?_
    refine zr_lastw X K o50 dL_capacity_8 ?_
    refine zr_goto X 15 dL_capacity_9 (by decide) ?_
    refine zr_iconst X dL_capacity_15 ?_
    exact zr_wret X ⟨by decide, by decide⟩ hr dL_capacity_16 (Or.inl ⟨rfl, z, τ, hp, rfl⟩)

theorem hd_maximum_0 : Hd [(0, 8, 11, 13)] 3 ISE 11 := ⟨tn_321, [], (0, 8, 11, 13), [], rfl, rfl, by decide, by decide, tw_314, fun _ h => by cases h⟩
theorem dc_L_maximum : dcl yL_maximum 2 := ⟨by decide, by decide, by decide +kernel⟩
theorem dc_LX6_maximum : dcl yX6_maximum 0 := ⟨by decide, by decide, by decide +kernel⟩
set_option maxHeartbeats 4000000 in
set_option maxRecDepth 100000 in
theorem w_maximum (l : Launch) (D : va_G) (cs : Nat → ClassId) (ad : Ix → Nat) (hap : Apart idsA ad) {σ : Mem}  {Post : Int → Mem → Prop} {XP : String → Prop} (hC : ∀ sz', CXI l D cs idsF ad yX6_maximum cX6_maximum 1 .int 7 8 48 sz' [(.ref (ad (3, 7)))] σ Post XP) (h45 : ∀ z τ, Post z τ → g45 σ τ) (hx : ∀ E, XP E → E = ISE) (sz : Nat) : CW l D cs ad yL_maximum cL_maximum 3 [(0, 8, 11, 13)] sz [(.ref (ad (3, 7))), (.ref (ad (5, 0)))] σ (wPost Post XP [(ISE, 1)] σ) := by
  refine CW.of hap (by decide) rfl (Nat.le_of_ble_eq_true rfl) ?_
  intro pg ev s0 mi av bl mt cdx X K hZ hA hT hr
  refine zr_aloadn X dL_maximum_0 rfl ?_
  refine zr_iconst X dL_maximum_1 ?_
  refine zr_aloadn X dL_maximum_2 rfl ?_
  refine zr_wcallI X K hZ hA hT (As := []) (st := [(jI 0), (.ref (ad (5, 0)))]) hC ⟨tw_512, tw_513, tw_514, tw_1, tw_515⟩ dc_LX6_maximum rfl rfl rfl (Nat.le_of_ble_eq_true rfl) (by decide) dL_maximum_3 h45 (fun E q9 hE => ?_) (fun z τ hp => ?_)
  · have hE1 := hx E hE
    rcases hE1 with rfl
    · refine ⟨11, hd_maximum_0, ?_⟩
      refine zr_astoren X dL_maximum_11 (by decide) rfl ?_
      refine zr_iconst X dL_maximum_12 ?_
      exact zr_wret X ⟨by decide, by decide⟩ hr dL_maximum_13 (Or.inr ⟨_, hE, by decide +kernel, rfl⟩)
  · show Wx pg l ev (rmm 8 8 48) s0 mi av bl mt cdx D cs idsA ad (RgN idsA ad sz) s0.heap 3 (vx_MQ bl (qXI D cs idsA ad sz (wPost Post XP [(ISE, 1)] σ)) (xNo ad sz) av s0 8 48 (RgN idsA ad sz)) 8 48 τ 6 [some (.ref (ad (3, 7))), some (.ref (ad (5, 0))), none] [(jI z), (jI 0), (.ref (ad (5, 0)))]
    refine zr_i2lw X dL_maximum_6 ?_
    refine zr_lastw X K o50 dL_maximum_7 ?_
    refine zr_goto X 14 dL_maximum_8 (by decide) ?_
    refine zr_iconst X dL_maximum_14 ?_
    exact zr_wret X ⟨by decide, by decide⟩ hr dL_maximum_15 (Or.inl ⟨rfl, z, τ, hp, rfl⟩)

theorem hd_maximumWith_0 : Hd [(0, 10, 13, 13), (0, 10, 17, 19), (0, 10, 21, 21)] 5 ISE 13 := ⟨tn_321, [], (0, 10, 13, 13), [(0, 10, 17, 19), (0, 10, 21, 21)], rfl, rfl, by decide, by decide, tw_314, fun _ h => by cases h⟩
theorem hd_maximumWith_1 : Hd [(0, 10, 13, 13), (0, 10, 17, 19), (0, 10, 21, 21)] 5 IOB 17 := ⟨tn_406, [(0, 10, 13, 13)], (0, 10, 17, 19), [(0, 10, 21, 21)], rfl, rfl, by decide, by decide, tw_394, List.forall_mem_cons.mpr ⟨⟨by decide, _, tw_314, by decide +kernel⟩, fun _ h => by cases h⟩⟩
theorem hd_maximumWith_2 : Hd [(0, 10, 13, 13), (0, 10, 17, 19), (0, 10, 21, 21)] 5 IAE 21 := ⟨tn_425, [(0, 10, 13, 13), (0, 10, 17, 19)], (0, 10, 21, 21), [], rfl, rfl, by decide, by decide, tw_395, List.forall_mem_cons.mpr ⟨⟨by decide, _, tw_314, by decide +kernel⟩, List.forall_mem_cons.mpr ⟨⟨by decide, _, tw_394, by decide +kernel⟩, fun _ h => by cases h⟩⟩⟩
theorem dc_L_maximumWith : dcl yL_maximumWith 4 := ⟨by decide, by decide, by decide +kernel⟩
theorem dc_LX6_maximumWith : dcl yX6_maximumWith 2 := ⟨by decide, by decide, by decide +kernel⟩
set_option maxHeartbeats 4000000 in
set_option maxRecDepth 100000 in
theorem w_maximumWith (l : Launch) (D : va_G) (cs : Nat → ClassId) (ad : Ix → Nat) (hap : Apart idsA ad) {σ : Mem} {a1 : Int} {a2 : Int} {Post : Int → Mem → Prop} {XP : String → Prop} (hC : ∀ sz', CXI l D cs idsF ad yX6_maximumWith cX6_maximumWith 3 .int 7 8 48 sz' [(.ref (ad (3, 7))), (jI a1), (jI a2)] σ Post XP) (h45 : ∀ z τ, Post z τ → g45 σ τ) (hx : ∀ E, XP E → E = ISE ∨ E = IOB ∨ E = IAE) (sz : Nat) : CW l D cs ad yL_maximumWith cL_maximumWith 5 [(0, 10, 13, 13), (0, 10, 17, 19), (0, 10, 21, 21)] sz [(.ref (ad (3, 7))), (jI a1), (jI a2), (.ref (ad (5, 0)))] σ (wPost Post XP [(ISE, 1), (IOB, 2), (IAE, 3)] σ) := by
  refine CW.of hap (by decide) rfl (Nat.le_of_ble_eq_true rfl) ?_
  intro pg ev s0 mi av bl mt cdx X K hZ hA hT hr
  refine zr_aloadn X dL_maximumWith_0 rfl ?_
  refine zr_iconst X dL_maximumWith_1 ?_
  refine zr_aloadn X dL_maximumWith_2 rfl ?_
  refine zr_iloadn X dL_maximumWith_3 rfl ?_
  refine zr_iloadn X dL_maximumWith_4 rfl ?_
  refine zr_wcallI X K hZ hA hT (As := [(jI a1), (jI a2)]) (st := [(jI 0), (.ref (ad (5, 0)))]) hC ⟨tw_524, tw_525, tw_526, tw_1, tw_527⟩ dc_LX6_maximumWith rfl rfl rfl (Nat.le_of_ble_eq_true rfl) (by decide) dL_maximumWith_5 h45 (fun E q9 hE => ?_) (fun z τ hp => ?_)
  · have hE1 := hx E hE
    rcases hE1 with rfl | rfl | rfl
    · refine ⟨13, hd_maximumWith_0, ?_⟩
      refine zr_astore X dL_maximumWith_13 (by decide) rfl ?_
      refine zr_iconst X dL_maximumWith_15 ?_
      exact zr_wret X ⟨by decide, by decide⟩ hr dL_maximumWith_16 (Or.inr ⟨_, hE, by decide +kernel, rfl⟩)
    · refine ⟨17, hd_maximumWith_1, ?_⟩
      refine zr_astore X dL_maximumWith_17 (by decide) rfl ?_
      refine zr_iconst X dL_maximumWith_19 ?_
      exact zr_wret X ⟨by decide, by decide⟩ hr dL_maximumWith_20 (Or.inr ⟨_, hE, by decide +kernel, rfl⟩)
    · refine ⟨21, hd_maximumWith_2, ?_⟩
      refine zr_astore X dL_maximumWith_21 (by decide) rfl ?_
      refine zr_iconst X dL_maximumWith_23 ?_
      exact zr_wret X ⟨by decide, by decide⟩ hr dL_maximumWith_24 (Or.inr ⟨_, hE, by decide +kernel, rfl⟩)
  · show Wx pg l ev (rmm 8 8 48) s0 mi av bl mt cdx D cs idsA ad (RgN idsA ad sz) s0.heap 5 (vx_MQ bl (qXI D cs idsA ad sz (wPost Post XP [(ISE, 1), (IOB, 2), (IAE, 3)] σ)) (xNo ad sz) av s0 8 48 (RgN idsA ad sz)) 8 48 τ 8 [some (.ref (ad (3, 7))), some (jI a1), some (jI a2), some (.ref (ad (5, 0))), none] [(jI z), (jI 0), (.ref (ad (5, 0)))]
    refine zr_i2lw X dL_maximumWith_8 ?_
    refine zr_lastw X K o50 dL_maximumWith_9 ?_
    refine zr_goto X 25 dL_maximumWith_10 (by decide) ?_
    refine zr_iconst X dL_maximumWith_25 ?_
    exact zr_wret X ⟨by decide, by decide⟩ hr dL_maximumWith_26 (Or.inl ⟨rfl, z, τ, hp, rfl⟩)

theorem hd_maximumWithout_0 : Hd [(0, 9, 12, 13), (0, 9, 15, 19)] 4 ISE 12 := ⟨tn_321, [], (0, 9, 12, 13), [(0, 9, 15, 19)], rfl, rfl, by decide, by decide, tw_314, fun _ h => by cases h⟩
theorem hd_maximumWithout_1 : Hd [(0, 9, 12, 13), (0, 9, 15, 19)] 4 IOB 15 := ⟨tn_406, [(0, 9, 12, 13)], (0, 9, 15, 19), [], rfl, rfl, by decide, by decide, tw_394, List.forall_mem_cons.mpr ⟨⟨by decide, _, tw_314, by decide +kernel⟩, fun _ h => by cases h⟩⟩
theorem dc_L_maximumWithout : dcl yL_maximumWithout 3 := ⟨by decide, by decide, by decide +kernel⟩
theorem dc_LX6_maximumWithout : dcl yX6_maximumWithout 1 := ⟨by decide, by decide, by decide +kernel⟩
set_option maxHeartbeats 4000000 in
set_option maxRecDepth 100000 in
theorem w_maximumWithout (l : Launch) (D : va_G) (cs : Nat → ClassId) (ad : Ix → Nat) (hap : Apart idsA ad) {σ : Mem} {a1 : Int} {Post : Int → Mem → Prop} {XP : String → Prop} (hC : ∀ sz', CXI l D cs idsF ad yX6_maximumWithout cX6_maximumWithout 3 .int 7 8 48 sz' [(.ref (ad (3, 7))), (jI a1)] σ Post XP) (h45 : ∀ z τ, Post z τ → g45 σ τ) (hx : ∀ E, XP E → E = ISE ∨ E = IOB) (sz : Nat) : CW l D cs ad yL_maximumWithout cL_maximumWithout 4 [(0, 9, 12, 13), (0, 9, 15, 19)] sz [(.ref (ad (3, 7))), (jI a1), (.ref (ad (5, 0)))] σ (wPost Post XP [(ISE, 1), (IOB, 2)] σ) := by
  refine CW.of hap (by decide) rfl (Nat.le_of_ble_eq_true rfl) ?_
  intro pg ev s0 mi av bl mt cdx X K hZ hA hT hr
  refine zr_aloadn X dL_maximumWithout_0 rfl ?_
  refine zr_iconst X dL_maximumWithout_1 ?_
  refine zr_aloadn X dL_maximumWithout_2 rfl ?_
  refine zr_iloadn X dL_maximumWithout_3 rfl ?_
  refine zr_wcallI X K hZ hA hT (As := [(jI a1)]) (st := [(jI 0), (.ref (ad (5, 0)))]) hC ⟨tw_542, tw_543, tw_544, tw_1, tw_545⟩ dc_LX6_maximumWithout rfl rfl rfl (Nat.le_of_ble_eq_true rfl) (by decide) dL_maximumWithout_4 h45 (fun E q9 hE => ?_) (fun z τ hp => ?_)
  · have hE1 := hx E hE
    rcases hE1 with rfl | rfl
    · refine ⟨12, hd_maximumWithout_0, ?_⟩
      refine zr_astoren X dL_maximumWithout_12 (by decide) rfl ?_
      refine zr_iconst X dL_maximumWithout_13 ?_
      exact zr_wret X ⟨by decide, by decide⟩ hr dL_maximumWithout_14 (Or.inr ⟨_, hE, by decide +kernel, rfl⟩)
    · refine ⟨15, hd_maximumWithout_1, ?_⟩
      refine zr_astoren X dL_maximumWithout_15 (by decide) rfl ?_
      refine zr_iconst X dL_maximumWithout_16 ?_
      exact zr_wret X ⟨by decide, by decide⟩ hr dL_maximumWithout_17 (Or.inr ⟨_, hE, by decide +kernel, rfl⟩)
  · show Wx pg l ev (rmm 8 8 48) s0 mi av bl mt cdx D cs idsA ad (RgN idsA ad sz) s0.heap 4 (vx_MQ bl (qXI D cs idsA ad sz (wPost Post XP [(ISE, 1), (IOB, 2)] σ)) (xNo ad sz) av s0 8 48 (RgN idsA ad sz)) 8 48 τ 7 [some (.ref (ad (3, 7))), some (jI a1), some (.ref (ad (5, 0))), none] [(jI z), (jI 0), (.ref (ad (5, 0)))]
    refine zr_i2lw X dL_maximumWithout_7 ?_
    refine zr_lastw X K o50 dL_maximumWithout_8 ?_
    refine zr_goto X 18 dL_maximumWithout_9 (by decide) ?_
    refine zr_iconst X dL_maximumWithout_18 ?_
    exact zr_wret X ⟨by decide, by decide⟩ hr dL_maximumWithout_19 (Or.inl ⟨rfl, z, τ, hp, rfl⟩)

theorem hd_maximumBetween_0 : Hd [(0, 10, 13, 19), (0, 10, 17, 21)] 5 IOB 13 := ⟨tn_406, [], (0, 10, 13, 19), [(0, 10, 17, 21)], rfl, rfl, by decide, by decide, tw_394, fun _ h => by cases h⟩
theorem hd_maximumBetween_1 : Hd [(0, 10, 13, 19), (0, 10, 17, 21)] 5 IAE 17 := ⟨tn_425, [(0, 10, 13, 19)], (0, 10, 17, 21), [], rfl, rfl, by decide, by decide, tw_395, List.forall_mem_cons.mpr ⟨⟨by decide, _, tw_394, by decide +kernel⟩, fun _ h => by cases h⟩⟩
theorem dc_L_maximumBetween : dcl yL_maximumBetween 4 := ⟨by decide, by decide, by decide +kernel⟩
theorem dc_LX6_maximumBetween : dcl yX6_maximumBetween 2 := ⟨by decide, by decide, by decide +kernel⟩
set_option maxHeartbeats 4000000 in
set_option maxRecDepth 100000 in
theorem w_maximumBetween (l : Launch) (D : va_G) (cs : Nat → ClassId) (ad : Ix → Nat) (hap : Apart idsA ad) {σ : Mem} {a1 : Int} {a2 : Int} {Post : Int → Mem → Prop} {XP : String → Prop} (hC : ∀ sz', CXI l D cs idsF ad yX6_maximumBetween cX6_maximumBetween 3 .int 7 8 48 sz' [(.ref (ad (3, 7))), (jI a1), (jI a2)] σ Post XP) (h45 : ∀ z τ, Post z τ → g45 σ τ) (hx : ∀ E, XP E → E = IOB ∨ E = IAE) (sz : Nat) : CW l D cs ad yL_maximumBetween cL_maximumBetween 5 [(0, 10, 13, 19), (0, 10, 17, 21)] sz [(.ref (ad (3, 7))), (jI a1), (jI a2), (.ref (ad (5, 0)))] σ (wPost Post XP [(IOB, 1), (IAE, 2)] σ) := by
  refine CW.of hap (by decide) rfl (Nat.le_of_ble_eq_true rfl) ?_
  intro pg ev s0 mi av bl mt cdx X K hZ hA hT hr
  refine zr_aloadn X dL_maximumBetween_0 rfl ?_
  refine zr_iconst X dL_maximumBetween_1 ?_
  refine zr_aloadn X dL_maximumBetween_2 rfl ?_
  refine zr_iloadn X dL_maximumBetween_3 rfl ?_
  refine zr_iloadn X dL_maximumBetween_4 rfl ?_
  refine zr_wcallI X K hZ hA hT (As := [(jI a1), (jI a2)]) (st := [(jI 0), (.ref (ad (5, 0)))]) hC ⟨tw_549, tw_550, tw_551, tw_1, tw_552⟩ dc_LX6_maximumBetween rfl rfl rfl (Nat.le_of_ble_eq_true rfl) (by decide) dL_maximumBetween_5 h45 (fun E q9 hE => ?_) (fun z τ hp => ?_)
  · have hE1 := hx E hE
    rcases hE1 with rfl | rfl
    · refine ⟨13, hd_maximumBetween_0, ?_⟩
      refine zr_astore X dL_maximumBetween_13 (by decide) rfl ?_
      refine zr_iconst X dL_maximumBetween_15 ?_
      exact zr_wret X ⟨by decide, by decide⟩ hr dL_maximumBetween_16 (Or.inr ⟨_, hE, by decide +kernel, rfl⟩)
    · refine ⟨17, hd_maximumBetween_1, ?_⟩
      refine zr_astore X dL_maximumBetween_17 (by decide) rfl ?_
      refine zr_iconst X dL_maximumBetween_19 ?_
      exact zr_wret X ⟨by decide, by decide⟩ hr dL_maximumBetween_20 (Or.inr ⟨_, hE, by decide +kernel, rfl⟩)
  · show Wx pg l ev (rmm 8 8 48) s0 mi av bl mt cdx D cs idsA ad (RgN idsA ad sz) s0.heap 5 (vx_MQ bl (qXI D cs idsA ad sz (wPost Post XP [(IOB, 1), (IAE, 2)] σ)) (xNo ad sz) av s0 8 48 (RgN idsA ad sz)) 8 48 τ 8 [some (.ref (ad (3, 7))), some (jI a1), some (jI a2), some (.ref (ad (5, 0))), none] [(jI z), (jI 0), (.ref (ad (5, 0)))]
    refine zr_i2lw X dL_maximumBetween_8 ?_
    refine zr_lastw X K o50 dL_maximumBetween_9 ?_
    refine zr_goto X 21 dL_maximumBetween_10 (by decide) ?_
    refine zr_iconst X dL_maximumBetween_21 ?_
    exact zr_wret X ⟨by decide, by decide⟩ hr dL_maximumBetween_22 (Or.inl ⟨rfl, z, τ, hp, rfl⟩)

theorem hd_utilization_0 : Hd [(0, 7, 10, 13)] 3 ISE 10 := ⟨tn_321, [], (0, 7, 10, 13), [], rfl, rfl, by decide, by decide, tw_314, fun _ h => by cases h⟩
theorem dc_L_utilization : dcl yL_utilization 2 := ⟨by decide, by decide, by decide +kernel⟩
theorem dc_LX6_utilization : dcl yX6_utilization 0 := ⟨by decide, by decide, by decide +kernel⟩
set_option maxHeartbeats 4000000 in
set_option maxRecDepth 100000 in
theorem w_utilization (l : Launch) (D : va_G) (cs : Nat → ClassId) (ad : Ix → Nat) (hap : Apart idsA ad) {σ : Mem}  {Post : UInt64 → Mem → Prop} {XP : String → Prop} (hC : ∀ sz', CXD l D cs idsF ad yX6_utilization cX6_utilization 2 7 8 48 sz' [(.ref (ad (3, 7)))] σ Post XP) (h45 : ∀ z τ, Post z τ → g45 σ τ) (hx : ∀ E, XP E → E = ISE) (sz : Nat) : CW l D cs ad yL_utilization cL_utilization 3 [(0, 7, 10, 13)] sz [(.ref (ad (3, 7))), (.ref (ad (5, 1)))] σ (wPostD Post XP [(ISE, 1)] σ) := by
  refine CW.of hap (by decide) rfl (Nat.le_of_ble_eq_true rfl) ?_
  intro pg ev s0 mi av bl mt cdx X K hZ hA hT hr
  refine zr_aloadn X dL_utilization_0 rfl ?_
  refine zr_iconst X dL_utilization_1 ?_
  refine zr_aloadn X dL_utilization_2 rfl ?_
  refine zr_wcallD X K hZ hA hT (As := []) (st := [(jI 0), (.ref (ad (5, 1)))]) hC ⟨tw_556, tw_557, tw_558, tw_1, tw_559⟩ dc_LX6_utilization rfl rfl rfl (Nat.le_of_ble_eq_true rfl) (by decide) dL_utilization_3 h45 (fun E q9 hE => ?_) (fun z τ hp => ?_)
  · have hE1 := hx E hE
    rcases hE1 with rfl
    · refine ⟨10, hd_utilization_0, ?_⟩
      refine zr_astoren X dL_utilization_10 (by decide) rfl ?_
      refine zr_iconst X dL_utilization_11 ?_
      exact zr_wret X ⟨by decide, by decide⟩ hr dL_utilization_12 (Or.inr ⟨_, hE, by decide +kernel, rfl⟩)
  · show Wx pg l ev (rmm 8 8 48) s0 mi av bl mt cdx D cs idsA ad (RgN idsA ad sz) s0.heap 3 (vx_MQ bl (qXI D cs idsA ad sz (wPostD Post XP [(ISE, 1)] σ)) (xNo ad sz) av s0 8 48 (RgN idsA ad sz)) 8 48 τ 6 [some (.ref (ad (3, 7))), some (.ref (ad (5, 1))), none] [(.double (z)), (jI 0), (.ref (ad (5, 1)))]
    refine zr_dastw X K o51 dL_utilization_6 ?_
    refine zr_goto X 13 dL_utilization_7 (by decide) ?_
    refine zr_iconst X dL_utilization_13 ?_
    exact zr_wret X ⟨by decide, by decide⟩ hr dL_utilization_14 (Or.inl ⟨rfl, z, τ, hp, rfl⟩)

theorem hd_leastFlow_0 : Hd [(0, 9, 12, 13), (0, 9, 15, 19)] 4 ISE 12 := ⟨tn_321, [], (0, 9, 12, 13), [(0, 9, 15, 19)], rfl, rfl, by decide, by decide, tw_314, fun _ h => by cases h⟩
theorem hd_leastFlow_1 : Hd [(0, 9, 12, 13), (0, 9, 15, 19)] 4 IOB 15 := ⟨tn_406, [(0, 9, 12, 13)], (0, 9, 15, 19), [], rfl, rfl, by decide, by decide, tw_394, List.forall_mem_cons.mpr ⟨⟨by decide, _, tw_314, by decide +kernel⟩, fun _ h => by cases h⟩⟩
theorem dc_L_leastFlow : dcl yL_leastFlow 3 := ⟨by decide, by decide, by decide +kernel⟩
theorem dc_LX6_leastFlow : dcl yX6_leastFlow 1 := ⟨by decide, by decide, by decide +kernel⟩
set_option maxHeartbeats 4000000 in
set_option maxRecDepth 100000 in
theorem w_leastFlow (l : Launch) (D : va_G) (cs : Nat → ClassId) (ad : Ix → Nat) (hap : Apart idsA ad) {σ : Mem} {a1 : Int} {Post : Int → Mem → Prop} {XP : String → Prop} (hC : ∀ sz', CXI l D cs idsF ad yX6_leastFlow cX6_leastFlow 4 .int 7 8 48 sz' [(.ref (ad (3, 7))), (jI a1)] σ Post XP) (h45 : ∀ z τ, Post z τ → g45 σ τ) (hx : ∀ E, XP E → E = ISE ∨ E = IOB) (sz : Nat) : CW l D cs ad yL_leastFlow cL_leastFlow 4 [(0, 9, 12, 13), (0, 9, 15, 19)] sz [(.ref (ad (3, 7))), (jI a1), (.ref (ad (5, 0)))] σ (wPost Post XP [(ISE, 1), (IOB, 2)] σ) := by
  refine CW.of hap (by decide) rfl (Nat.le_of_ble_eq_true rfl) ?_
  intro pg ev s0 mi av bl mt cdx X K hZ hA hT hr
  refine zr_aloadn X dL_leastFlow_0 rfl ?_
  refine zr_iconst X dL_leastFlow_1 ?_
  refine zr_aloadn X dL_leastFlow_2 rfl ?_
  refine zr_iloadn X dL_leastFlow_3 rfl ?_
  refine zr_wcallI X K hZ hA hT (As := [(jI a1)]) (st := [(jI 0), (.ref (ad (5, 0)))]) hC ⟨tw_567, tw_568, tw_569, tw_1, tw_570⟩ dc_LX6_leastFlow rfl rfl rfl (Nat.le_of_ble_eq_true rfl) (by decide) dL_leastFlow_4 h45 (fun E q9 hE => ?_) (fun z τ hp => ?_)
  · have hE1 := hx E hE
    rcases hE1 with rfl | rfl
    · refine ⟨12, hd_leastFlow_0, ?_⟩
      refine zr_astoren X dL_leastFlow_12 (by decide) rfl ?_
      refine zr_iconst X dL_leastFlow_13 ?_
      exact zr_wret X ⟨by decide, by decide⟩ hr dL_leastFlow_14 (Or.inr ⟨_, hE, by decide +kernel, rfl⟩)
    · refine ⟨15, hd_leastFlow_1, ?_⟩
      refine zr_astoren X dL_leastFlow_15 (by decide) rfl ?_
      refine zr_iconst X dL_leastFlow_16 ?_
      exact zr_wret X ⟨by decide, by decide⟩ hr dL_leastFlow_17 (Or.inr ⟨_, hE, by decide +kernel, rfl⟩)
  · show Wx pg l ev (rmm 8 8 48) s0 mi av bl mt cdx D cs idsA ad (RgN idsA ad sz) s0.heap 4 (vx_MQ bl (qXI D cs idsA ad sz (wPost Post XP [(ISE, 1), (IOB, 2)] σ)) (xNo ad sz) av s0 8 48 (RgN idsA ad sz)) 8 48 τ 7 [some (.ref (ad (3, 7))), some (jI a1), some (.ref (ad (5, 0))), none] [(jI z), (jI 0), (.ref (ad (5, 0)))]
    refine zr_i2lw X dL_leastFlow_7 ?_
    refine zr_lastw X K o50 dL_leastFlow_8 ?_
    refine zr_goto X 18 dL_leastFlow_9 (by decide) ?_
    refine zr_iconst X dL_leastFlow_18 ?_
    exact zr_wret X ⟨by decide, by decide⟩ hr dL_leastFlow_19 (Or.inl ⟨rfl, z, τ, hp, rfl⟩)

theorem hd_greatestFlow_0 : Hd [(0, 9, 12, 13), (0, 9, 15, 19)] 4 ISE 12 := ⟨tn_321, [], (0, 9, 12, 13), [(0, 9, 15, 19)], rfl, rfl, by decide, by decide, tw_314, fun _ h => by cases h⟩
theorem hd_greatestFlow_1 : Hd [(0, 9, 12, 13), (0, 9, 15, 19)] 4 IOB 15 := ⟨tn_406, [(0, 9, 12, 13)], (0, 9, 15, 19), [], rfl, rfl, by decide, by decide, tw_394, List.forall_mem_cons.mpr ⟨⟨by decide, _, tw_314, by decide +kernel⟩, fun _ h => by cases h⟩⟩
theorem dc_L_greatestFlow : dcl yL_greatestFlow 3 := ⟨by decide, by decide, by decide +kernel⟩
theorem dc_LX6_greatestFlow : dcl yX6_greatestFlow 1 := ⟨by decide, by decide, by decide +kernel⟩
set_option maxHeartbeats 4000000 in
set_option maxRecDepth 100000 in
theorem w_greatestFlow (l : Launch) (D : va_G) (cs : Nat → ClassId) (ad : Ix → Nat) (hap : Apart idsA ad) {σ : Mem} {a1 : Int} {Post : Int → Mem → Prop} {XP : String → Prop} (hC : ∀ sz', CXI l D cs idsF ad yX6_greatestFlow cX6_greatestFlow 4 .int 7 8 48 sz' [(.ref (ad (3, 7))), (jI a1)] σ Post XP) (h45 : ∀ z τ, Post z τ → g45 σ τ) (hx : ∀ E, XP E → E = ISE ∨ E = IOB) (sz : Nat) : CW l D cs ad yL_greatestFlow cL_greatestFlow 4 [(0, 9, 12, 13), (0, 9, 15, 19)] sz [(.ref (ad (3, 7))), (jI a1), (.ref (ad (5, 0)))] σ (wPost Post XP [(ISE, 1), (IOB, 2)] σ) := by
  refine CW.of hap (by decide) rfl (Nat.le_of_ble_eq_true rfl) ?_
  intro pg ev s0 mi av bl mt cdx X K hZ hA hT hr
  refine zr_aloadn X dL_greatestFlow_0 rfl ?_
  refine zr_iconst X dL_greatestFlow_1 ?_
  refine zr_aloadn X dL_greatestFlow_2 rfl ?_
  refine zr_iloadn X dL_greatestFlow_3 rfl ?_
  refine zr_wcallI X K hZ hA hT (As := [(jI a1)]) (st := [(jI 0), (.ref (ad (5, 0)))]) hC ⟨tw_585, tw_586, tw_587, tw_1, tw_588⟩ dc_LX6_greatestFlow rfl rfl rfl (Nat.le_of_ble_eq_true rfl) (by decide) dL_greatestFlow_4 h45 (fun E q9 hE => ?_) (fun z τ hp => ?_)
  · have hE1 := hx E hE
    rcases hE1 with rfl | rfl
    · refine ⟨12, hd_greatestFlow_0, ?_⟩
      refine zr_astoren X dL_greatestFlow_12 (by decide) rfl ?_
      refine zr_iconst X dL_greatestFlow_13 ?_
      exact zr_wret X ⟨by decide, by decide⟩ hr dL_greatestFlow_14 (Or.inr ⟨_, hE, by decide +kernel, rfl⟩)
    · refine ⟨15, hd_greatestFlow_1, ?_⟩
      refine zr_astoren X dL_greatestFlow_15 (by decide) rfl ?_
      refine zr_iconst X dL_greatestFlow_16 ?_
      exact zr_wret X ⟨by decide, by decide⟩ hr dL_greatestFlow_17 (Or.inr ⟨_, hE, by decide +kernel, rfl⟩)
  · show Wx pg l ev (rmm 8 8 48) s0 mi av bl mt cdx D cs idsA ad (RgN idsA ad sz) s0.heap 4 (vx_MQ bl (qXI D cs idsA ad sz (wPost Post XP [(ISE, 1), (IOB, 2)] σ)) (xNo ad sz) av s0 8 48 (RgN idsA ad sz)) 8 48 τ 7 [some (.ref (ad (3, 7))), some (jI a1), some (.ref (ad (5, 0))), none] [(jI z), (jI 0), (.ref (ad (5, 0)))]
    refine zr_i2lw X dL_greatestFlow_7 ?_
    refine zr_lastw X K o50 dL_greatestFlow_8 ?_
    refine zr_goto X 18 dL_greatestFlow_9 (by decide) ?_
    refine zr_iconst X dL_greatestFlow_18 ?_
    exact zr_wret X ⟨by decide, by decide⟩ hr dL_greatestFlow_19 (Or.inl ⟨rfl, z, τ, hp, rfl⟩)

theorem hd_cutCapacity_0 : Hd [(0, 9, 12, 13), (0, 9, 15, 21)] 4 ISE 12 := ⟨tn_321, [], (0, 9, 12, 13), [(0, 9, 15, 21)], rfl, rfl, by decide, by decide, tw_314, fun _ h => by cases h⟩
theorem hd_cutCapacity_1 : Hd [(0, 9, 12, 13), (0, 9, 15, 21)] 4 IAE 15 := ⟨tn_425, [(0, 9, 12, 13)], (0, 9, 15, 21), [], rfl, rfl, by decide, by decide, tw_395, List.forall_mem_cons.mpr ⟨⟨by decide, _, tw_314, by decide +kernel⟩, fun _ h => by cases h⟩⟩
theorem dc_L_cutCapacity : dcl yL_cutCapacity 3 := ⟨by decide, by decide, by decide +kernel⟩
theorem dc_LX6_cutCapacity : dcl yX6_cutCapacity 1 := ⟨by decide, by decide, by decide +kernel⟩
set_option maxHeartbeats 4000000 in
set_option maxRecDepth 100000 in
theorem w_cutCapacity (l : Launch) (D : va_G) (cs : Nat → ClassId) (ad : Ix → Nat) (hap : Apart idsA ad) {σ : Mem} {a1 : Int} {Post : Int → Mem → Prop} {XP : String → Prop} (hC : ∀ sz', CXI l D cs idsF ad yX6_cutCapacity cX6_cutCapacity 2 .int 7 8 48 sz' [(.ref (ad (3, 7))), (jI a1)] σ Post XP) (h45 : ∀ z τ, Post z τ → g45 σ τ) (hx : ∀ E, XP E → E = ISE ∨ E = IAE) (sz : Nat) : CW l D cs ad yL_cutCapacity cL_cutCapacity 4 [(0, 9, 12, 13), (0, 9, 15, 21)] sz [(.ref (ad (3, 7))), (jI a1), (.ref (ad (5, 0)))] σ (wPost Post XP [(ISE, 1), (IAE, 2)] σ) := by
  refine CW.of hap (by decide) rfl (Nat.le_of_ble_eq_true rfl) ?_
  intro pg ev s0 mi av bl mt cdx X K hZ hA hT hr
  refine zr_aloadn X dL_cutCapacity_0 rfl ?_
  refine zr_iconst X dL_cutCapacity_1 ?_
  refine zr_aloadn X dL_cutCapacity_2 rfl ?_
  refine zr_iloadn X dL_cutCapacity_3 rfl ?_
  refine zr_wcallI X K hZ hA hT (As := [(jI a1)]) (st := [(jI 0), (.ref (ad (5, 0)))]) hC ⟨tw_593, tw_594, tw_595, tw_1, tw_596⟩ dc_LX6_cutCapacity rfl rfl rfl (Nat.le_of_ble_eq_true rfl) (by decide) dL_cutCapacity_4 h45 (fun E q9 hE => ?_) (fun z τ hp => ?_)
  · have hE1 := hx E hE
    rcases hE1 with rfl | rfl
    · refine ⟨12, hd_cutCapacity_0, ?_⟩
      refine zr_astoren X dL_cutCapacity_12 (by decide) rfl ?_
      refine zr_iconst X dL_cutCapacity_13 ?_
      exact zr_wret X ⟨by decide, by decide⟩ hr dL_cutCapacity_14 (Or.inr ⟨_, hE, by decide +kernel, rfl⟩)
    · refine ⟨15, hd_cutCapacity_1, ?_⟩
      refine zr_astoren X dL_cutCapacity_15 (by decide) rfl ?_
      refine zr_iconst X dL_cutCapacity_16 ?_
      exact zr_wret X ⟨by decide, by decide⟩ hr dL_cutCapacity_17 (Or.inr ⟨_, hE, by decide +kernel, rfl⟩)
  · show Wx pg l ev (rmm 8 8 48) s0 mi av bl mt cdx D cs idsA ad (RgN idsA ad sz) s0.heap 4 (vx_MQ bl (qXI D cs idsA ad sz (wPost Post XP [(ISE, 1), (IAE, 2)] σ)) (xNo ad sz) av s0 8 48 (RgN idsA ad sz)) 8 48 τ 7 [some (.ref (ad (3, 7))), some (jI a1), some (.ref (ad (5, 0))), none] [(jI z), (jI 0), (.ref (ad (5, 0)))]
    refine zr_i2lw X dL_cutCapacity_7 ?_
    refine zr_lastw X K o50 dL_cutCapacity_8 ?_
    refine zr_goto X 18 dL_cutCapacity_9 (by decide) ?_
    refine zr_iconst X dL_cutCapacity_18 ?_
    exact zr_wret X ⟨by decide, by decide⟩ hr dL_cutCapacity_19 (Or.inl ⟨rfl, z, τ, hp, rfl⟩)

theorem hd_smallestCut_0 : Hd [(0, 8, 11, 13)] 3 ISE 11 := ⟨tn_321, [], (0, 8, 11, 13), [], rfl, rfl, by decide, by decide, tw_314, fun _ h => by cases h⟩
theorem dc_L_smallestCut : dcl yL_smallestCut 2 := ⟨by decide, by decide, by decide +kernel⟩
theorem dc_LX6_smallestCut : dcl yX6_smallestCut 0 := ⟨by decide, by decide, by decide +kernel⟩
set_option maxHeartbeats 4000000 in
set_option maxRecDepth 100000 in
theorem w_smallestCut (l : Launch) (D : va_G) (cs : Nat → ClassId) (ad : Ix → Nat) (hap : Apart idsA ad) {σ : Mem}  {Post : Int → Mem → Prop} {XP : String → Prop} (hC : ∀ sz', CXI l D cs idsF ad yX6_smallestCut cX6_smallestCut 1 .int 7 8 48 sz' [(.ref (ad (3, 7)))] σ Post XP) (h45 : ∀ z τ, Post z τ → g45 σ τ) (hx : ∀ E, XP E → E = ISE) (sz : Nat) : CW l D cs ad yL_smallestCut cL_smallestCut 3 [(0, 8, 11, 13)] sz [(.ref (ad (3, 7))), (.ref (ad (5, 0)))] σ (wPost Post XP [(ISE, 1)] σ) := by
  refine CW.of hap (by decide) rfl (Nat.le_of_ble_eq_true rfl) ?_
  intro pg ev s0 mi av bl mt cdx X K hZ hA hT hr
  refine zr_aloadn X dL_smallestCut_0 rfl ?_
  refine zr_iconst X dL_smallestCut_1 ?_
  refine zr_aloadn X dL_smallestCut_2 rfl ?_
  refine zr_wcallI X K hZ hA hT (As := []) (st := [(jI 0), (.ref (ad (5, 0)))]) hC ⟨tw_610, tw_611, tw_612, tw_1, tw_613⟩ dc_LX6_smallestCut rfl rfl rfl (Nat.le_of_ble_eq_true rfl) (by decide) dL_smallestCut_3 h45 (fun E q9 hE => ?_) (fun z τ hp => ?_)
  · have hE1 := hx E hE
    rcases hE1 with rfl
    · refine ⟨11, hd_smallestCut_0, ?_⟩
      refine zr_astoren X dL_smallestCut_11 (by decide) rfl ?_
      refine zr_iconst X dL_smallestCut_12 ?_
      exact zr_wret X ⟨by decide, by decide⟩ hr dL_smallestCut_13 (Or.inr ⟨_, hE, by decide +kernel, rfl⟩)
  · show Wx pg l ev (rmm 8 8 48) s0 mi av bl mt cdx D cs idsA ad (RgN idsA ad sz) s0.heap 3 (vx_MQ bl (qXI D cs idsA ad sz (wPost Post XP [(ISE, 1)] σ)) (xNo ad sz) av s0 8 48 (RgN idsA ad sz)) 8 48 τ 6 [some (.ref (ad (3, 7))), some (.ref (ad (5, 0))), none] [(jI z), (jI 0), (.ref (ad (5, 0)))]
    refine zr_i2lw X dL_smallestCut_6 ?_
    refine zr_lastw X K o50 dL_smallestCut_7 ?_
    refine zr_goto X 14 dL_smallestCut_8 (by decide) ?_
    refine zr_iconst X dL_smallestCut_14 ?_
    exact zr_wret X ⟨by decide, by decide⟩ hr dL_smallestCut_15 (Or.inl ⟨rfl, z, τ, hp, rfl⟩)

theorem hd_greatestCut_0 : Hd [(0, 8, 11, 13)] 3 ISE 11 := ⟨tn_321, [], (0, 8, 11, 13), [], rfl, rfl, by decide, by decide, tw_314, fun _ h => by cases h⟩
theorem dc_L_greatestCut : dcl yL_greatestCut 2 := ⟨by decide, by decide, by decide +kernel⟩
theorem dc_LX6_greatestCut : dcl yX6_greatestCut 0 := ⟨by decide, by decide, by decide +kernel⟩
set_option maxHeartbeats 4000000 in
set_option maxRecDepth 100000 in
theorem w_greatestCut (l : Launch) (D : va_G) (cs : Nat → ClassId) (ad : Ix → Nat) (hap : Apart idsA ad) {σ : Mem}  {Post : Int → Mem → Prop} {XP : String → Prop} (hC : ∀ sz', CXI l D cs idsF ad yX6_greatestCut cX6_greatestCut 1 .int 7 8 48 sz' [(.ref (ad (3, 7)))] σ Post XP) (h45 : ∀ z τ, Post z τ → g45 σ τ) (hx : ∀ E, XP E → E = ISE) (sz : Nat) : CW l D cs ad yL_greatestCut cL_greatestCut 3 [(0, 8, 11, 13)] sz [(.ref (ad (3, 7))), (.ref (ad (5, 0)))] σ (wPost Post XP [(ISE, 1)] σ) := by
  refine CW.of hap (by decide) rfl (Nat.le_of_ble_eq_true rfl) ?_
  intro pg ev s0 mi av bl mt cdx X K hZ hA hT hr
  refine zr_aloadn X dL_greatestCut_0 rfl ?_
  refine zr_iconst X dL_greatestCut_1 ?_
  refine zr_aloadn X dL_greatestCut_2 rfl ?_
  refine zr_wcallI X K hZ hA hT (As := []) (st := [(jI 0), (.ref (ad (5, 0)))]) hC ⟨tw_617, tw_618, tw_619, tw_1, tw_620⟩ dc_LX6_greatestCut rfl rfl rfl (Nat.le_of_ble_eq_true rfl) (by decide) dL_greatestCut_3 h45 (fun E q9 hE => ?_) (fun z τ hp => ?_)
  · have hE1 := hx E hE
    rcases hE1 with rfl
    · refine ⟨11, hd_greatestCut_0, ?_⟩
      refine zr_astoren X dL_greatestCut_11 (by decide) rfl ?_
      refine zr_iconst X dL_greatestCut_12 ?_
      exact zr_wret X ⟨by decide, by decide⟩ hr dL_greatestCut_13 (Or.inr ⟨_, hE, by decide +kernel, rfl⟩)
  · show Wx pg l ev (rmm 8 8 48) s0 mi av bl mt cdx D cs idsA ad (RgN idsA ad sz) s0.heap 3 (vx_MQ bl (qXI D cs idsA ad sz (wPost Post XP [(ISE, 1)] σ)) (xNo ad sz) av s0 8 48 (RgN idsA ad sz)) 8 48 τ 6 [some (.ref (ad (3, 7))), some (.ref (ad (5, 0))), none] [(jI z), (jI 0), (.ref (ad (5, 0)))]
    refine zr_i2lw X dL_greatestCut_6 ?_
    refine zr_lastw X K o50 dL_greatestCut_7 ?_
    refine zr_goto X 14 dL_greatestCut_8 (by decide) ?_
    refine zr_iconst X dL_greatestCut_14 ?_
    exact zr_wret X ⟨by decide, by decide⟩ hr dL_greatestCut_15 (Or.inl ⟨rfl, z, τ, hp, rfl⟩)

theorem hd_findCuts_0 : Hd [(0, 8, 11, 13)] 3 ISE 11 := ⟨tn_321, [], (0, 8, 11, 13), [], rfl, rfl, by decide, by decide, tw_314, fun _ h => by cases h⟩
theorem dc_L_findCuts : dcl yL_findCuts 2 := ⟨by decide, by decide, by decide +kernel⟩
theorem dc_LX6_findCuts : dcl yX6_findCuts 0 := ⟨by decide, by decide, by decide +kernel⟩
set_option maxHeartbeats 4000000 in
set_option maxRecDepth 100000 in
theorem w_findCuts (l : Launch) (D : va_G) (cs : Nat → ClassId) (ad : Ix → Nat) (hap : Apart idsA ad) {σ : Mem}  {Post : Int → Mem → Prop} {XP : String → Prop} (hC : ∀ sz', CXI l D cs idsF ad yX6_findCuts cX6_findCuts 1 .int 7 8 48 sz' [(.ref (ad (3, 7)))] σ Post XP) (h45 : ∀ z τ, Post z τ → g45 σ τ) (hx : ∀ E, XP E → E = ISE) (sz : Nat) : CW l D cs ad yL_findCuts cL_findCuts 3 [(0, 8, 11, 13)] sz [(.ref (ad (3, 7))), (.ref (ad (5, 0)))] σ (wPost Post XP [(ISE, 1)] σ) := by
  refine CW.of hap (by decide) rfl (Nat.le_of_ble_eq_true rfl) ?_
  intro pg ev s0 mi av bl mt cdx X K hZ hA hT hr
  refine zr_aloadn X dL_findCuts_0 rfl ?_
  refine zr_iconst X dL_findCuts_1 ?_
  refine zr_aloadn X dL_findCuts_2 rfl ?_
  refine zr_wcallI X K hZ hA hT (As := []) (st := [(jI 0), (.ref (ad (5, 0)))]) hC ⟨tw_624, tw_625, tw_626, tw_1, tw_627⟩ dc_LX6_findCuts rfl rfl rfl (Nat.le_of_ble_eq_true rfl) (by decide) dL_findCuts_3 h45 (fun E q9 hE => ?_) (fun z τ hp => ?_)
  · have hE1 := hx E hE
    rcases hE1 with rfl
    · refine ⟨11, hd_findCuts_0, ?_⟩
      refine zr_astoren X dL_findCuts_11 (by decide) rfl ?_
      refine zr_iconst X dL_findCuts_12 ?_
      exact zr_wret X ⟨by decide, by decide⟩ hr dL_findCuts_13 (Or.inr ⟨_, hE, by decide +kernel, rfl⟩)
  · show Wx pg l ev (rmm 8 8 48) s0 mi av bl mt cdx D cs idsA ad (RgN idsA ad sz) s0.heap 3 (vx_MQ bl (qXI D cs idsA ad sz (wPost Post XP [(ISE, 1)] σ)) (xNo ad sz) av s0 8 48 (RgN idsA ad sz)) 8 48 τ 6 [some (.ref (ad (3, 7))), some (.ref (ad (5, 0))), none] [(jI z), (jI 0), (.ref (ad (5, 0)))]
    refine zr_i2lw X dL_findCuts_6 ?_
    refine zr_lastw X K o50 dL_findCuts_7 ?_
    refine zr_goto X 14 dL_findCuts_8 (by decide) ?_
    refine zr_iconst X dL_findCuts_14 ?_
    exact zr_wret X ⟨by decide, by decide⟩ hr dL_findCuts_15 (Or.inl ⟨rfl, z, τ, hp, rfl⟩)

theorem hd_cut_0 : Hd [(0, 9, 12, 19)] 4 IOB 12 := ⟨tn_406, [], (0, 9, 12, 19), [], rfl, rfl, by decide, by decide, tw_394, fun _ h => by cases h⟩
theorem dc_L_cut : dcl yL_cut 3 := ⟨by decide, by decide, by decide +kernel⟩
theorem dc_LX6_cut : dcl yX6_cut 1 := ⟨by decide, by decide, by decide +kernel⟩
set_option maxHeartbeats 4000000 in
set_option maxRecDepth 100000 in
theorem w_cut (l : Launch) (D : va_G) (cs : Nat → ClassId) (ad : Ix → Nat) (hap : Apart idsA ad) {σ : Mem} {a1 : Int} {Post : Int → Mem → Prop} {XP : String → Prop} (hC : ∀ sz', CXI l D cs idsF ad yX6_cut cX6_cut 2 .int 7 8 48 sz' [(.ref (ad (3, 7))), (jI a1)] σ Post XP) (h45 : ∀ z τ, Post z τ → g45 σ τ) (hx : ∀ E, XP E → E = IOB) (sz : Nat) : CW l D cs ad yL_cut cL_cut 4 [(0, 9, 12, 19)] sz [(.ref (ad (3, 7))), (jI a1), (.ref (ad (5, 0)))] σ (wPost Post XP [(IOB, 1)] σ) := by
  refine CW.of hap (by decide) rfl (Nat.le_of_ble_eq_true rfl) ?_
  intro pg ev s0 mi av bl mt cdx X K hZ hA hT hr
  refine zr_aloadn X dL_cut_0 rfl ?_
  refine zr_iconst X dL_cut_1 ?_
  refine zr_aloadn X dL_cut_2 rfl ?_
  refine zr_iloadn X dL_cut_3 rfl ?_
  refine zr_wcallI X K hZ hA hT (As := [(jI a1)]) (st := [(jI 0), (.ref (ad (5, 0)))]) hC ⟨tw_645, tw_646, tw_647, tw_1, tw_648⟩ dc_LX6_cut rfl rfl rfl (Nat.le_of_ble_eq_true rfl) (by decide) dL_cut_4 h45 (fun E q9 hE => ?_) (fun z τ hp => ?_)
  · have hE1 := hx E hE
    rcases hE1 with rfl
    · refine ⟨12, hd_cut_0, ?_⟩
      refine zr_astoren X dL_cut_12 (by decide) rfl ?_
      refine zr_iconst X dL_cut_13 ?_
      exact zr_wret X ⟨by decide, by decide⟩ hr dL_cut_14 (Or.inr ⟨_, hE, by decide +kernel, rfl⟩)
  · show Wx pg l ev (rmm 8 8 48) s0 mi av bl mt cdx D cs idsA ad (RgN idsA ad sz) s0.heap 4 (vx_MQ bl (qXI D cs idsA ad sz (wPost Post XP [(IOB, 1)] σ)) (xNo ad sz) av s0 8 48 (RgN idsA ad sz)) 8 48 τ 7 [some (.ref (ad (3, 7))), some (jI a1), some (.ref (ad (5, 0))), none] [(jI z), (jI 0), (.ref (ad (5, 0)))]
    refine zr_i2lw X dL_cut_7 ?_
    refine zr_lastw X K o50 dL_cut_8 ?_
    refine zr_goto X 15 dL_cut_9 (by decide) ?_
    refine zr_iconst X dL_cut_15 ?_
    exact zr_wret X ⟨by decide, by decide⟩ hr dL_cut_16 (Or.inl ⟨rfl, z, τ, hp, rfl⟩)

theorem hd_isBottleneck_0 : Hd [(0, 16, 19, 13), (0, 16, 22, 19)] 4 ISE 19 := ⟨tn_321, [], (0, 16, 19, 13), [(0, 16, 22, 19)], rfl, rfl, by decide, by decide, tw_314, fun _ h => by cases h⟩
theorem hd_isBottleneck_1 : Hd [(0, 16, 19, 13), (0, 16, 22, 19)] 4 IOB 22 := ⟨tn_406, [(0, 16, 19, 13)], (0, 16, 22, 19), [], rfl, rfl, by decide, by decide, tw_394, List.forall_mem_cons.mpr ⟨⟨by decide, _, tw_314, by decide +kernel⟩, fun _ h => by cases h⟩⟩
theorem dc_L_isBottleneck : dcl yL_isBottleneck 3 := ⟨by decide, by decide, by decide +kernel⟩
theorem dc_LX6_isBottleneck : dcl yX6_isBottleneck 1 := ⟨by decide, by decide, by decide +kernel⟩
set_option maxHeartbeats 4000000 in
set_option maxRecDepth 100000 in
theorem w_isBottleneck (l : Launch) (D : va_G) (cs : Nat → ClassId) (ad : Ix → Nat) (hap : Apart idsA ad) {σ : Mem} {a1 : Int} {Post : Int → Mem → Prop} {XP : String → Prop} (hC : ∀ sz', CXI l D cs idsF ad yX6_isBottleneck cX6_isBottleneck 3 .boolean 7 8 48 sz' [(.ref (ad (3, 7))), (jI a1)] σ Post XP) (h45 : ∀ z τ, Post z τ → g45 σ τ) (hx : ∀ E, XP E → E = ISE ∨ E = IOB) (h01 : ∀ z τ, Post z τ → z = 0 ∨ z = 1) (sz : Nat) : CW l D cs ad yL_isBottleneck cL_isBottleneck 4 [(0, 16, 19, 13), (0, 16, 22, 19)] sz [(.ref (ad (3, 7))), (jI a1), (.ref (ad (5, 0)))] σ (wPost Post XP [(ISE, 1), (IOB, 2)] σ) := by
  refine CW.of hap (by decide) rfl (Nat.le_of_ble_eq_true rfl) ?_
  intro pg ev s0 mi av bl mt cdx X K hZ hA hT hr
  refine zr_aloadn X dL_isBottleneck_0 rfl ?_
  refine zr_iconst X dL_isBottleneck_1 ?_
  refine zr_aloadn X dL_isBottleneck_2 rfl ?_
  refine zr_iloadn X dL_isBottleneck_3 rfl ?_
  refine zr_wcallI X K hZ hA hT (As := [(jI a1)]) (st := [(jI 0), (.ref (ad (5, 0)))]) hC ⟨tw_653, tw_654, tw_655, tw_1, tw_656⟩ dc_LX6_isBottleneck rfl rfl rfl (Nat.le_of_ble_eq_true rfl) (by decide) dL_isBottleneck_4 h45 (fun E q9 hE => ?_) (fun z τ hp => ?_)
  · have hE1 := hx E hE
    rcases hE1 with rfl | rfl
    · refine ⟨19, hd_isBottleneck_0, ?_⟩
      refine zr_astoren X dL_isBottleneck_19 (by decide) rfl ?_
      refine zr_iconst X dL_isBottleneck_20 ?_
      exact zr_wret X ⟨by decide, by decide⟩ hr dL_isBottleneck_21 (Or.inr ⟨_, hE, by decide +kernel, rfl⟩)
    · refine ⟨22, hd_isBottleneck_1, ?_⟩
      refine zr_astoren X dL_isBottleneck_22 (by decide) rfl ?_
      refine zr_iconst X dL_isBottleneck_23 ?_
      exact zr_wret X ⟨by decide, by decide⟩ hr dL_isBottleneck_24 (Or.inr ⟨_, hE, by decide +kernel, rfl⟩)
  · show Wx pg l ev (rmm 8 8 48) s0 mi av bl mt cdx D cs idsA ad (RgN idsA ad sz) s0.heap 4 (vx_MQ bl (qXI D cs idsA ad sz (wPost Post XP [(ISE, 1), (IOB, 2)] σ)) (xNo ad sz) av s0 8 48 (RgN idsA ad sz)) 8 48 τ 7 [some (.ref (ad (3, 7))), some (jI a1), some (.ref (ad (5, 0))), none] [(jI z), (jI 0), (.ref (ad (5, 0)))]
    have hz01 := h01 _ _ hp
    refine zr_if_eq X 14 dL_isBottleneck_7 (by decide) (by rcases hz01 with q | q <;> rw [q] <;> exact ⟨by decide, by decide⟩) (fun t_ => ?_) (fun f_ => ?_)
    · skip
      refine zr_lconst X dL_isBottleneck_14 ?_
      refine zr_lastw X K (z := 0) o50 dL_isBottleneck_15 ?_
      refine zr_goto X 25 dL_isBottleneck_16 (by decide) ?_
      refine zr_iconst X dL_isBottleneck_25 ?_
      exact zr_wret X ⟨by decide, by decide⟩ hr dL_isBottleneck_26 (Or.inl ⟨rfl, z, τ, hp, by have : z = 0 := (by first | exact t_ | (rcases hz01 with q | q; exact absurd q f_; exact q)); rw [this]; rfl⟩)
    · skip
      refine zr_lconst X dL_isBottleneck_10 ?_
      refine zr_goto X 15 dL_isBottleneck_11 (by decide) ?_
      refine zr_lastw X K (z := 1) o50 dL_isBottleneck_15 ?_
      refine zr_goto X 25 dL_isBottleneck_16 (by decide) ?_
      refine zr_iconst X dL_isBottleneck_25 ?_
      exact zr_wret X ⟨by decide, by decide⟩ hr dL_isBottleneck_26 (Or.inl ⟨rfl, z, τ, hp, by have : z = 1 := (by first | exact t_ | (rcases hz01 with q | q; exact absurd q f_; exact q)); rw [this]; rfl⟩)

theorem hd_isLimiting_0 : Hd [(0, 16, 19, 13), (0, 16, 22, 19)] 4 ISE 19 := ⟨tn_321, [], (0, 16, 19, 13), [(0, 16, 22, 19)], rfl, rfl, by decide, by decide, tw_314, fun _ h => by cases h⟩
theorem hd_isLimiting_1 : Hd [(0, 16, 19, 13), (0, 16, 22, 19)] 4 IOB 22 := ⟨tn_406, [(0, 16, 19, 13)], (0, 16, 22, 19), [], rfl, rfl, by decide, by decide, tw_394, List.forall_mem_cons.mpr ⟨⟨by decide, _, tw_314, by decide +kernel⟩, fun _ h => by cases h⟩⟩
theorem dc_L_isLimiting : dcl yL_isLimiting 3 := ⟨by decide, by decide, by decide +kernel⟩
theorem dc_LX6_isLimiting : dcl yX6_isLimiting 1 := ⟨by decide, by decide, by decide +kernel⟩
set_option maxHeartbeats 4000000 in
set_option maxRecDepth 100000 in
theorem w_isLimiting (l : Launch) (D : va_G) (cs : Nat → ClassId) (ad : Ix → Nat) (hap : Apart idsA ad) {σ : Mem} {a1 : Int} {Post : Int → Mem → Prop} {XP : String → Prop} (hC : ∀ sz', CXI l D cs idsF ad yX6_isLimiting cX6_isLimiting 2 .boolean 7 8 48 sz' [(.ref (ad (3, 7))), (jI a1)] σ Post XP) (h45 : ∀ z τ, Post z τ → g45 σ τ) (hx : ∀ E, XP E → E = ISE ∨ E = IOB) (h01 : ∀ z τ, Post z τ → z = 0 ∨ z = 1) (sz : Nat) : CW l D cs ad yL_isLimiting cL_isLimiting 4 [(0, 16, 19, 13), (0, 16, 22, 19)] sz [(.ref (ad (3, 7))), (jI a1), (.ref (ad (5, 0)))] σ (wPost Post XP [(ISE, 1), (IOB, 2)] σ) := by
  refine CW.of hap (by decide) rfl (Nat.le_of_ble_eq_true rfl) ?_
  intro pg ev s0 mi av bl mt cdx X K hZ hA hT hr
  refine zr_aloadn X dL_isLimiting_0 rfl ?_
  refine zr_iconst X dL_isLimiting_1 ?_
  refine zr_aloadn X dL_isLimiting_2 rfl ?_
  refine zr_iloadn X dL_isLimiting_3 rfl ?_
  refine zr_wcallI X K hZ hA hT (As := [(jI a1)]) (st := [(jI 0), (.ref (ad (5, 0)))]) hC ⟨tw_661, tw_662, tw_663, tw_1, tw_664⟩ dc_LX6_isLimiting rfl rfl rfl (Nat.le_of_ble_eq_true rfl) (by decide) dL_isLimiting_4 h45 (fun E q9 hE => ?_) (fun z τ hp => ?_)
  · have hE1 := hx E hE
    rcases hE1 with rfl | rfl
    · refine ⟨19, hd_isLimiting_0, ?_⟩
      refine zr_astoren X dL_isLimiting_19 (by decide) rfl ?_
      refine zr_iconst X dL_isLimiting_20 ?_
      exact zr_wret X ⟨by decide, by decide⟩ hr dL_isLimiting_21 (Or.inr ⟨_, hE, by decide +kernel, rfl⟩)
    · refine ⟨22, hd_isLimiting_1, ?_⟩
      refine zr_astoren X dL_isLimiting_22 (by decide) rfl ?_
      refine zr_iconst X dL_isLimiting_23 ?_
      exact zr_wret X ⟨by decide, by decide⟩ hr dL_isLimiting_24 (Or.inr ⟨_, hE, by decide +kernel, rfl⟩)
  · show Wx pg l ev (rmm 8 8 48) s0 mi av bl mt cdx D cs idsA ad (RgN idsA ad sz) s0.heap 4 (vx_MQ bl (qXI D cs idsA ad sz (wPost Post XP [(ISE, 1), (IOB, 2)] σ)) (xNo ad sz) av s0 8 48 (RgN idsA ad sz)) 8 48 τ 7 [some (.ref (ad (3, 7))), some (jI a1), some (.ref (ad (5, 0))), none] [(jI z), (jI 0), (.ref (ad (5, 0)))]
    have hz01 := h01 _ _ hp
    refine zr_if_eq X 14 dL_isLimiting_7 (by decide) (by rcases hz01 with q | q <;> rw [q] <;> exact ⟨by decide, by decide⟩) (fun t_ => ?_) (fun f_ => ?_)
    · skip
      refine zr_lconst X dL_isLimiting_14 ?_
      refine zr_lastw X K (z := 0) o50 dL_isLimiting_15 ?_
      refine zr_goto X 25 dL_isLimiting_16 (by decide) ?_
      refine zr_iconst X dL_isLimiting_25 ?_
      exact zr_wret X ⟨by decide, by decide⟩ hr dL_isLimiting_26 (Or.inl ⟨rfl, z, τ, hp, by have : z = 0 := (by first | exact t_ | (rcases hz01 with q | q; exact absurd q f_; exact q)); rw [this]; rfl⟩)
    · skip
      refine zr_lconst X dL_isLimiting_10 ?_
      refine zr_goto X 15 dL_isLimiting_11 (by decide) ?_
      refine zr_lastw X K (z := 1) o50 dL_isLimiting_15 ?_
      refine zr_goto X 25 dL_isLimiting_16 (by decide) ?_
      refine zr_iconst X dL_isLimiting_25 ?_
      exact zr_wret X ⟨by decide, by decide⟩ hr dL_isLimiting_26 (Or.inl ⟨rfl, z, τ, hp, by have : z = 1 := (by first | exact t_ | (rcases hz01 with q | q; exact absurd q f_; exact q)); rw [this]; rfl⟩)

theorem hd_headroom_0 : Hd [(0, 9, 12, 13), (0, 9, 15, 19)] 4 ISE 12 := ⟨tn_321, [], (0, 9, 12, 13), [(0, 9, 15, 19)], rfl, rfl, by decide, by decide, tw_314, fun _ h => by cases h⟩
theorem hd_headroom_1 : Hd [(0, 9, 12, 13), (0, 9, 15, 19)] 4 IOB 15 := ⟨tn_406, [(0, 9, 12, 13)], (0, 9, 15, 19), [], rfl, rfl, by decide, by decide, tw_394, List.forall_mem_cons.mpr ⟨⟨by decide, _, tw_314, by decide +kernel⟩, fun _ h => by cases h⟩⟩
theorem dc_L_headroom : dcl yL_headroom 3 := ⟨by decide, by decide, by decide +kernel⟩
theorem dc_LX6_headroom : dcl yX6_headroom 1 := ⟨by decide, by decide, by decide +kernel⟩
set_option maxHeartbeats 4000000 in
set_option maxRecDepth 100000 in
theorem w_headroom (l : Launch) (D : va_G) (cs : Nat → ClassId) (ad : Ix → Nat) (hap : Apart idsA ad) {σ : Mem} {a1 : Int} {Post : Int → Mem → Prop} {XP : String → Prop} (hC : ∀ sz', CXI l D cs idsF ad yX6_headroom cX6_headroom 2 .int 7 8 48 sz' [(.ref (ad (3, 7))), (jI a1)] σ Post XP) (h45 : ∀ z τ, Post z τ → g45 σ τ) (hx : ∀ E, XP E → E = ISE ∨ E = IOB) (sz : Nat) : CW l D cs ad yL_headroom cL_headroom 4 [(0, 9, 12, 13), (0, 9, 15, 19)] sz [(.ref (ad (3, 7))), (jI a1), (.ref (ad (5, 0)))] σ (wPost Post XP [(ISE, 1), (IOB, 2)] σ) := by
  refine CW.of hap (by decide) rfl (Nat.le_of_ble_eq_true rfl) ?_
  intro pg ev s0 mi av bl mt cdx X K hZ hA hT hr
  refine zr_aloadn X dL_headroom_0 rfl ?_
  refine zr_iconst X dL_headroom_1 ?_
  refine zr_aloadn X dL_headroom_2 rfl ?_
  refine zr_iloadn X dL_headroom_3 rfl ?_
  refine zr_wcallI X K hZ hA hT (As := [(jI a1)]) (st := [(jI 0), (.ref (ad (5, 0)))]) hC ⟨tw_668, tw_669, tw_670, tw_1, tw_671⟩ dc_LX6_headroom rfl rfl rfl (Nat.le_of_ble_eq_true rfl) (by decide) dL_headroom_4 h45 (fun E q9 hE => ?_) (fun z τ hp => ?_)
  · have hE1 := hx E hE
    rcases hE1 with rfl | rfl
    · refine ⟨12, hd_headroom_0, ?_⟩
      refine zr_astoren X dL_headroom_12 (by decide) rfl ?_
      refine zr_iconst X dL_headroom_13 ?_
      exact zr_wret X ⟨by decide, by decide⟩ hr dL_headroom_14 (Or.inr ⟨_, hE, by decide +kernel, rfl⟩)
    · refine ⟨15, hd_headroom_1, ?_⟩
      refine zr_astoren X dL_headroom_15 (by decide) rfl ?_
      refine zr_iconst X dL_headroom_16 ?_
      exact zr_wret X ⟨by decide, by decide⟩ hr dL_headroom_17 (Or.inr ⟨_, hE, by decide +kernel, rfl⟩)
  · show Wx pg l ev (rmm 8 8 48) s0 mi av bl mt cdx D cs idsA ad (RgN idsA ad sz) s0.heap 4 (vx_MQ bl (qXI D cs idsA ad sz (wPost Post XP [(ISE, 1), (IOB, 2)] σ)) (xNo ad sz) av s0 8 48 (RgN idsA ad sz)) 8 48 τ 7 [some (.ref (ad (3, 7))), some (jI a1), some (.ref (ad (5, 0))), none] [(jI z), (jI 0), (.ref (ad (5, 0)))]
    refine zr_i2lw X dL_headroom_7 ?_
    refine zr_lastw X K o50 dL_headroom_8 ?_
    refine zr_goto X 18 dL_headroom_9 (by decide) ?_
    refine zr_iconst X dL_headroom_18 ?_
    exact zr_wret X ⟨by decide, by decide⟩ hr dL_headroom_19 (Or.inl ⟨rfl, z, τ, hp, rfl⟩)

theorem hd_push_0 : Hd [(0, 8, 11, 13)] 3 ISE 11 := ⟨tn_321, [], (0, 8, 11, 13), [], rfl, rfl, by decide, by decide, tw_314, fun _ h => by cases h⟩
theorem dc_L_push : dcl yL_push 2 := ⟨by decide, by decide, by decide +kernel⟩
theorem dc_LX6_push : dcl yX6_push 0 := ⟨by decide, by decide, by decide +kernel⟩
set_option maxHeartbeats 4000000 in
set_option maxRecDepth 100000 in
theorem w_push (l : Launch) (D : va_G) (cs : Nat → ClassId) (ad : Ix → Nat) (hap : Apart idsA ad) {σ : Mem}  {Post : Int → Mem → Prop} {XP : String → Prop} (hC : ∀ sz', CXI l D cs idsF ad yX6_push cX6_push 1 .int 7 8 48 sz' [(.ref (ad (3, 7)))] σ Post XP) (h45 : ∀ z τ, Post z τ → g45 σ τ) (hx : ∀ E, XP E → E = ISE) (sz : Nat) : CW l D cs ad yL_push cL_push 3 [(0, 8, 11, 13)] sz [(.ref (ad (3, 7))), (.ref (ad (5, 0)))] σ (wPost Post XP [(ISE, 1)] σ) := by
  refine CW.of hap (by decide) rfl (Nat.le_of_ble_eq_true rfl) ?_
  intro pg ev s0 mi av bl mt cdx X K hZ hA hT hr
  refine zr_aloadn X dL_push_0 rfl ?_
  refine zr_iconst X dL_push_1 ?_
  refine zr_aloadn X dL_push_2 rfl ?_
  refine zr_wcallI X K hZ hA hT (As := []) (st := [(jI 0), (.ref (ad (5, 0)))]) hC ⟨tw_676, tw_677, tw_678, tw_1, tw_679⟩ dc_LX6_push rfl rfl rfl (Nat.le_of_ble_eq_true rfl) (by decide) dL_push_3 h45 (fun E q9 hE => ?_) (fun z τ hp => ?_)
  · have hE1 := hx E hE
    rcases hE1 with rfl
    · refine ⟨11, hd_push_0, ?_⟩
      refine zr_astoren X dL_push_11 (by decide) rfl ?_
      refine zr_iconst X dL_push_12 ?_
      exact zr_wret X ⟨by decide, by decide⟩ hr dL_push_13 (Or.inr ⟨_, hE, by decide +kernel, rfl⟩)
  · show Wx pg l ev (rmm 8 8 48) s0 mi av bl mt cdx D cs idsA ad (RgN idsA ad sz) s0.heap 3 (vx_MQ bl (qXI D cs idsA ad sz (wPost Post XP [(ISE, 1)] σ)) (xNo ad sz) av s0 8 48 (RgN idsA ad sz)) 8 48 τ 6 [some (.ref (ad (3, 7))), some (.ref (ad (5, 0))), none] [(jI z), (jI 0), (.ref (ad (5, 0)))]
    refine zr_i2lw X dL_push_6 ?_
    refine zr_lastw X K o50 dL_push_7 ?_
    refine zr_goto X 14 dL_push_8 (by decide) ?_
    refine zr_iconst X dL_push_14 ?_
    exact zr_wret X ⟨by decide, by decide⟩ hr dL_push_15 (Or.inl ⟨rfl, z, τ, hp, rfl⟩)

theorem hd_pop_0 : Hd [(0, 8, 11, 13)] 3 ISE 11 := ⟨tn_321, [], (0, 8, 11, 13), [], rfl, rfl, by decide, by decide, tw_314, fun _ h => by cases h⟩
theorem dc_L_pop : dcl yL_pop 2 := ⟨by decide, by decide, by decide +kernel⟩
theorem dc_LX6_pop : dcl yX6_pop 0 := ⟨by decide, by decide, by decide +kernel⟩
set_option maxHeartbeats 4000000 in
set_option maxRecDepth 100000 in
theorem w_pop (l : Launch) (D : va_G) (cs : Nat → ClassId) (ad : Ix → Nat) (hap : Apart idsA ad) {σ : Mem}  {Post : Int → Mem → Prop} {XP : String → Prop} (hC : ∀ sz', CXI l D cs idsF ad yX6_pop cX6_pop 3 .int 7 8 48 sz' [(.ref (ad (3, 7)))] σ Post XP) (h45 : ∀ z τ, Post z τ → g45 σ τ) (hx : ∀ E, XP E → E = ISE) (sz : Nat) : CW l D cs ad yL_pop cL_pop 3 [(0, 8, 11, 13)] sz [(.ref (ad (3, 7))), (.ref (ad (5, 0)))] σ (wPost Post XP [(ISE, 1)] σ) := by
  refine CW.of hap (by decide) rfl (Nat.le_of_ble_eq_true rfl) ?_
  intro pg ev s0 mi av bl mt cdx X K hZ hA hT hr
  refine zr_aloadn X dL_pop_0 rfl ?_
  refine zr_iconst X dL_pop_1 ?_
  refine zr_aloadn X dL_pop_2 rfl ?_
  refine zr_wcallI X K hZ hA hT (As := []) (st := [(jI 0), (.ref (ad (5, 0)))]) hC ⟨tw_689, tw_690, tw_691, tw_1, tw_692⟩ dc_LX6_pop rfl rfl rfl (Nat.le_of_ble_eq_true rfl) (by decide) dL_pop_3 h45 (fun E q9 hE => ?_) (fun z τ hp => ?_)
  · have hE1 := hx E hE
    rcases hE1 with rfl
    · refine ⟨11, hd_pop_0, ?_⟩
      refine zr_astoren X dL_pop_11 (by decide) rfl ?_
      refine zr_iconst X dL_pop_12 ?_
      exact zr_wret X ⟨by decide, by decide⟩ hr dL_pop_13 (Or.inr ⟨_, hE, by decide +kernel, rfl⟩)
  · show Wx pg l ev (rmm 8 8 48) s0 mi av bl mt cdx D cs idsA ad (RgN idsA ad sz) s0.heap 3 (vx_MQ bl (qXI D cs idsA ad sz (wPost Post XP [(ISE, 1)] σ)) (xNo ad sz) av s0 8 48 (RgN idsA ad sz)) 8 48 τ 6 [some (.ref (ad (3, 7))), some (.ref (ad (5, 0))), none] [(jI z), (jI 0), (.ref (ad (5, 0)))]
    refine zr_i2lw X dL_pop_6 ?_
    refine zr_lastw X K o50 dL_pop_7 ?_
    refine zr_goto X 14 dL_pop_8 (by decide) ?_
    refine zr_iconst X dL_pop_14 ?_
    exact zr_wret X ⟨by decide, by decide⟩ hr dL_pop_15 (Or.inl ⟨rfl, z, τ, hp, rfl⟩)
