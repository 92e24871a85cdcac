/-! THE CLASS: what its methods ask for -/

theorem st_48 : ((48, "there are 24 nodes") : Nat × String) ∈ strs := by decide +kernel

theorem st_71 : ((71, "there are 80 arcs") : Nat × String) ∈ strs := by decide +kernel

theorem st_147 : ((147, "this is not the mask of a cut") : Nat × String) ∈ strs := by decide +kernel

theorem st_203 : ((203, "no source and sink are chosen") : Nat × String) ∈ strs := by decide +kernel

theorem st_205 : ((205, "there is no such node") : Nat × String) ∈ strs := by decide +kernel

theorem st_207 : ((207, "there is no such arc") : Nat × String) ∈ strs := by decide +kernel

theorem st_209 : ((209, "both nodes are the same") : Nat × String) ∈ strs := by decide +kernel

theorem st_212 : ((212, "the capacity is not 0 to 1000000") : Nat × String) ∈ strs := by decide +kernel

theorem st_216 : ((216, "the fraction is not from 0 to 1000") : Nat × String) ∈ strs := by decide +kernel

theorem xgd_ISE : ∀ w ∈ Cond.classLink "FlowNetwork" 46 ISE :: Cond.initialized ISE :: vx_atS "FlowNetwork" 50 ISE xnames, vx_ot w = true := by decide +kernel

theorem xgd_IOB : ∀ w ∈ Cond.classLink "FlowNetwork" 162 IOB :: Cond.initialized IOB :: vx_atS "FlowNetwork" 166 IOB xnames, vx_ot w = true := by decide +kernel

theorem xgd_IAE : ∀ w ∈ Cond.classLink "FlowNetwork" 145 IAE :: Cond.initialized IAE :: vx_atS "FlowNetwork" 149 IAE xnames, vx_ot w = true := by decide +kernel

theorem dc_X6_requireEnds : dcl yX6_requireEnds 0 := ⟨by decide, by decide, by decide +kernel⟩
theorem dc_X6_requireNode : dcl yX6_requireNode 1 := ⟨by decide, by decide, by decide +kernel⟩
theorem dc_X6_requireArc : dcl yX6_requireArc 1 := ⟨by decide, by decide, by decide +kernel⟩
theorem dc_X6_requireDifferent : dcl yX6_requireDifferent 2 := ⟨by decide, by decide, by decide +kernel⟩
theorem dc_X6_requireCapacity : dcl yX6_requireCapacity 1 := ⟨by decide, by decide, by decide +kernel⟩

set_option maxHeartbeats 4000000 in
set_option maxRecDepth 100000 in
theorem c_X6_requireEnds (l : Launch) (D : va_G) (cs : Nat → ClassId) (ad : Ix → Nat) (hap : Apart idsF ad) (hl : l.stackTraces = false) {σ : Mem} (hN : NetOk σ) (hE : endsNo σ 0 ∨ endsYes σ 0) (sz : Nat) : CXV l D cs idsF ad yX6_requireEnds cX6_requireEnds 1 6 1 6 sz [(.ref (ad (3, 7)))] σ (fun τ => τ = σ ∧ endsYes σ 0) ((fun E => E = ISE ∧ endsNo σ 0)) := by
  refine CXV.of RX6 hl hap idsF_nd (by decide) rfl (Nat.le_of_ble_eq_true rfl) ?_
  intro pg ev s0 mi av bl mt cd X K T hr
  refine zr_aloadn X dX6_requireEnds_0 rfl ?_
  refine zr_get X K (C := RX6) (T := TX6) (N := 5) (k := 1) mF_3_7 rfl rfl ti_6 (by decide) rfl tw_180 rfl dX6_requireEnds_1 ?_
  refine zr_callNI X K (q := (RX3, TX3, 6)) (st := []) (c_X3_hasEnds l D cs ad hap (b := 0) (by decide) (σ := σ) hN hE) ⟨tn_386, tw_388, tp_17, tw_3, tw_389⟩ dc_X3_hasEnds mF_6_0 rfl rfl rfl rfl rfl (Nat.le_of_ble_eq_true rfl) (by decide) dX6_requireEnds_4 ?_
  intro z τ_ hp_
  obtain ⟨hτ_, hz⟩ := hp_
  subst τ_
  refine zr_if_ne X 20 dX6_requireEnds_7 (by decide) (by rcases hz with q | q <;> exact ⟨by omega, by omega⟩) (fun t_7 => ?_) (fun f_7 => ?_)
  · refine zr_xvret X ⟨by decide, by decide⟩ hr dX6_requireEnds_20 ?_
    exact ⟨rfl, (hz.resolve_right (fun q => by omega)).2⟩
  · exact zr_throw (E := ISE) (tx := "no source and sink are chosen") X K T st_203 tw_390 tw_11 xat_ISE xgd_ISE (by decide +kernel) dX6_requireEnds_10 dX6_requireEnds_13 dX6_requireEnds_14 dX6_requireEnds_16 dX6_requireEnds_19 ⟨Nat.le_of_ble_eq_true rfl, Nat.le_of_ble_eq_true rfl, Nat.le_of_ble_eq_true rfl, Nat.le_of_ble_eq_true rfl⟩ ⟨by decide, by decide⟩ ⟨rfl, (hz.resolve_left (fun q => by omega)).2⟩

set_option maxHeartbeats 4000000 in
set_option maxRecDepth 100000 in
theorem c_X6_requireNode (l : Launch) (D : va_G) (cs : Nat → ClassId) (ad : Ix → Nat) (hap : Apart idsF ad) (hl : l.stackTraces = false) {σ : Mem} (hN : NetOk σ) {v : Int} (hv : rg v) (sz : Nat) : CXV l D cs idsF ad yX6_requireNode cX6_requireNode 2 6 1 6 sz [(.ref (ad (3, 7))), (jI v)] σ (fun τ => τ = σ ∧ 0 ≤ v ∧ v < σ (0, 0) 0) ((fun E => E = IOB ∧ ¬ (0 ≤ v ∧ v < σ (0, 0) 0))) := by
  refine CXV.of RX6 hl hap idsF_nd (by decide) rfl (Nat.le_of_ble_eq_true rfl) ?_
  intro pg ev s0 mi av bl mt cd X K T hr
  have hn := hN.1
  have hv1 := hv.1
  have hv2 := hv.2
  refine zr_iloadn X dX6_requireNode_0 rfl ?_
  refine zr_if_lt X 15 dX6_requireNode_1 (by decide) ⟨by omega, by omega⟩ (fun t_1 => ?_) (fun f_1 => ?_)
  · exact zr_throw (E := IOB) (tx := "there is no such node") X K T st_205 tw_203 tw_12 xat_IOB xgd_IOB (by decide +kernel) dX6_requireNode_15 dX6_requireNode_18 dX6_requireNode_19 dX6_requireNode_21 dX6_requireNode_24 ⟨Nat.le_of_ble_eq_true rfl, Nat.le_of_ble_eq_true rfl, Nat.le_of_ble_eq_true rfl, Nat.le_of_ble_eq_true rfl⟩ ⟨by decide, by decide⟩ ⟨rfl, by omega⟩
  · refine zr_iloadn X dX6_requireNode_4 rfl ?_
    refine zr_aloadn X dX6_requireNode_5 rfl ?_
    refine zr_get X K (C := RX6) (T := TX6) (N := 5) (k := 0) mF_3_7 rfl rfl ti_6 (by decide) rfl tw_179 rfl dX6_requireNode_6 ?_
    refine zr_getN X K (C := RX4) (T := TX4) (N := 6) (k := 0) mF_0_0 rfl rfl ti_4 (by decide) rfl tn_34 rfl dX6_requireNode_9 ?_
    refine zr_icmp_lt X 25 dX6_requireNode_12 (by decide) ⟨by omega, by omega⟩ ⟨by omega, by omega⟩ (fun t_12 => ?_) (fun f_12 => ?_)
    · refine zr_xvret X ⟨by decide, by decide⟩ hr dX6_requireNode_25 ?_
      exact ⟨rfl, by omega, by omega⟩
    · exact zr_throw (E := IOB) (tx := "there is no such node") X K T st_205 tw_203 tw_12 xat_IOB xgd_IOB (by decide +kernel) dX6_requireNode_15 dX6_requireNode_18 dX6_requireNode_19 dX6_requireNode_21 dX6_requireNode_24 ⟨Nat.le_of_ble_eq_true rfl, Nat.le_of_ble_eq_true rfl, Nat.le_of_ble_eq_true rfl, Nat.le_of_ble_eq_true rfl⟩ ⟨by decide, by decide⟩ ⟨rfl, by omega⟩

set_option maxHeartbeats 4000000 in
set_option maxRecDepth 100000 in
theorem c_X6_requireArc (l : Launch) (D : va_G) (cs : Nat → ClassId) (ad : Ix → Nat) (hap : Apart idsF ad) (hl : l.stackTraces = false) {σ : Mem} (hN : NetOk σ) {v : Int} (hv : rg v) (sz : Nat) : CXV l D cs idsF ad yX6_requireArc cX6_requireArc 2 6 1 6 sz [(.ref (ad (3, 7))), (jI v)] σ (fun τ => τ = σ ∧ 0 ≤ v ∧ v < σ (0, 1) 0) ((fun E => E = IOB ∧ ¬ (0 ≤ v ∧ v < σ (0, 1) 0))) := by
  refine CXV.of RX6 hl hap idsF_nd (by decide) rfl (Nat.le_of_ble_eq_true rfl) ?_
  intro pg ev s0 mi av bl mt cd X K T hr
  have hn := hN.2.1
  have hv1 := hv.1
  have hv2 := hv.2
  refine zr_iloadn X dX6_requireArc_0 rfl ?_
  refine zr_if_lt X 15 dX6_requireArc_1 (by decide) ⟨by omega, by omega⟩ (fun t_1 => ?_) (fun f_1 => ?_)
  · exact zr_throw (E := IOB) (tx := "there is no such arc") X K T st_207 tw_203 tw_12 xat_IOB xgd_IOB (by decide +kernel) dX6_requireArc_15 dX6_requireArc_18 dX6_requireArc_19 dX6_requireArc_21 dX6_requireArc_24 ⟨Nat.le_of_ble_eq_true rfl, Nat.le_of_ble_eq_true rfl, Nat.le_of_ble_eq_true rfl, Nat.le_of_ble_eq_true rfl⟩ ⟨by decide, by decide⟩ ⟨rfl, by omega⟩
  · refine zr_iloadn X dX6_requireArc_4 rfl ?_
    refine zr_aloadn X dX6_requireArc_5 rfl ?_
    refine zr_get X K (C := RX6) (T := TX6) (N := 5) (k := 0) mF_3_7 rfl rfl ti_6 (by decide) rfl tw_179 rfl dX6_requireArc_6 ?_
    refine zr_getN X K (C := RX4) (T := TX4) (N := 6) (k := 1) mF_0_0 rfl rfl ti_4 (by decide) rfl tn_39 rfl dX6_requireArc_9 ?_
    refine zr_icmp_lt X 25 dX6_requireArc_12 (by decide) ⟨by omega, by omega⟩ ⟨by omega, by omega⟩ (fun t_12 => ?_) (fun f_12 => ?_)
    · refine zr_xvret X ⟨by decide, by decide⟩ hr dX6_requireArc_25 ?_
      exact ⟨rfl, by omega, by omega⟩
    · exact zr_throw (E := IOB) (tx := "there is no such arc") X K T st_207 tw_203 tw_12 xat_IOB xgd_IOB (by decide +kernel) dX6_requireArc_15 dX6_requireArc_18 dX6_requireArc_19 dX6_requireArc_21 dX6_requireArc_24 ⟨Nat.le_of_ble_eq_true rfl, Nat.le_of_ble_eq_true rfl, Nat.le_of_ble_eq_true rfl, Nat.le_of_ble_eq_true rfl⟩ ⟨by decide, by decide⟩ ⟨rfl, by omega⟩

set_option maxHeartbeats 4000000 in
set_option maxRecDepth 100000 in
theorem c_X6_requireDifferent (l : Launch) (D : va_G) (cs : Nat → ClassId) (ad : Ix → Nat) (hap : Apart idsF ad) (hl : l.stackTraces = false) {σ : Mem} {v w : Int} (hv : rg v) (hw : rg w) (sz : Nat) : CXV l D cs idsF ad yX6_requireDifferent cX6_requireDifferent 2 6 1 6 sz [(jI v), (jI w)] σ (fun τ => τ = σ ∧ v ≠ w) ((fun E => E = IAE ∧ v = w)) := by
  refine CXV.of RX6 hl hap idsF_nd (by decide) rfl (Nat.le_of_ble_eq_true rfl) ?_
  intro pg ev s0 mi av bl mt cd X K T hr
  have hv1 := hv.1
  have hv2 := hv.2
  have hw1 := hw.1
  have hw2 := hw.2
  refine zr_iloadn X dX6_requireDifferent_0 rfl ?_
  refine zr_iloadn X dX6_requireDifferent_1 rfl ?_
  refine zr_icmp_ne X 15 dX6_requireDifferent_2 (by decide) ⟨by omega, by omega⟩ ⟨by omega, by omega⟩ (fun t_2 => ?_) (fun f_2 => ?_)
  · refine zr_xvret X ⟨by decide, by decide⟩ hr dX6_requireDifferent_15 ?_
    exact ⟨rfl, by omega⟩
  · exact zr_throw (E := IAE) (tx := "both nodes are the same") X K T st_209 tw_275 tw_13 xat_IAE xgd_IAE (by decide +kernel) dX6_requireDifferent_5 dX6_requireDifferent_8 dX6_requireDifferent_9 dX6_requireDifferent_11 dX6_requireDifferent_14 ⟨Nat.le_of_ble_eq_true rfl, Nat.le_of_ble_eq_true rfl, Nat.le_of_ble_eq_true rfl, Nat.le_of_ble_eq_true rfl⟩ ⟨by decide, by decide⟩ ⟨rfl, by omega⟩

set_option maxHeartbeats 4000000 in
set_option maxRecDepth 100000 in
theorem c_X6_requireCapacity (l : Launch) (D : va_G) (cs : Nat → ClassId) (ad : Ix → Nat) (hap : Apart idsF ad) (hl : l.stackTraces = false) {σ : Mem} {v : Int} (hv : rg v) (sz : Nat) : CXV l D cs idsF ad yX6_requireCapacity cX6_requireCapacity 1 6 1 6 sz [(jI v)] σ (fun τ => τ = σ ∧ 0 ≤ v ∧ v ≤ 1000000) ((fun E => E = IAE ∧ ¬ (0 ≤ v ∧ v ≤ 1000000))) := by
  refine CXV.of RX6 hl hap idsF_nd (by decide) rfl (Nat.le_of_ble_eq_true rfl) ?_
  intro pg ev s0 mi av bl mt cd X K T hr
  have hv1 := hv.1
  have hv2 := hv.2
  refine zr_iloadn X dX6_requireCapacity_0 rfl ?_
  refine zr_if_lt X 10 dX6_requireCapacity_1 (by decide) ⟨by omega, by omega⟩ (fun t_1 => ?_) (fun f_1 => ?_)
  · exact zr_throw (E := IAE) (tx := "the capacity is not 0 to 1000000") X K T st_212 tw_275 tw_13 xat_IAE xgd_IAE (by decide +kernel) dX6_requireCapacity_10 dX6_requireCapacity_13 dX6_requireCapacity_14 dX6_requireCapacity_16 dX6_requireCapacity_19 ⟨Nat.le_of_ble_eq_true rfl, Nat.le_of_ble_eq_true rfl, Nat.le_of_ble_eq_true rfl, Nat.le_of_ble_eq_true rfl⟩ ⟨by decide, by decide⟩ ⟨rfl, by omega⟩
  · refine zr_iloadn X dX6_requireCapacity_4 rfl ?_
    refine zr_ldc (n := 1000000) X dX6_requireCapacity_5 tw_274 rfl ?_
    refine zr_icmp_le X 20 dX6_requireCapacity_7 (by decide) ⟨by omega, by omega⟩ ⟨by omega, by omega⟩ (fun t_7 => ?_) (fun f_7 => ?_)
    · refine zr_xvret X ⟨by decide, by decide⟩ hr dX6_requireCapacity_20 ?_
      exact ⟨rfl, by omega, by omega⟩
    · exact zr_throw (E := IAE) (tx := "the capacity is not 0 to 1000000") X K T st_212 tw_275 tw_13 xat_IAE xgd_IAE (by decide +kernel) dX6_requireCapacity_10 dX6_requireCapacity_13 dX6_requireCapacity_14 dX6_requireCapacity_16 dX6_requireCapacity_19 ⟨Nat.le_of_ble_eq_true rfl, Nat.le_of_ble_eq_true rfl, Nat.le_of_ble_eq_true rfl, Nat.le_of_ble_eq_true rfl⟩ ⟨by decide, by decide⟩ ⟨rfl, by omega⟩
