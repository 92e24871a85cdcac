/-! FLOW AND NETWORK: the leaves -/

theorem dc_X6_contains : dcl yX6_contains 2 := ⟨by decide, by decide, by decide +kernel⟩
theorem dc_X1_room : dcl yX1_room 2 := ⟨by decide, by decide, by decide +kernel⟩
theorem dc_X1_send : dcl yX1_send 3 := ⟨by decide, by decide, by decide +kernel⟩
theorem dc_X4_otherEnd : dcl yX4_otherEnd 2 := ⟨by decide, by decide, by decide +kernel⟩
theorem dc_X1_withNeighbours : dcl yX1_withNeighbours 1 := ⟨by decide, by decide, by decide +kernel⟩
theorem dc_X1_reachableFrom : dcl yX1_reachableFrom 1 := ⟨by decide, by decide, by decide +kernel⟩
theorem dc_X1_capacityOut : dcl yX1_capacityOut 1 := ⟨by decide, by decide, by decide +kernel⟩
theorem dc_X1_block : dcl yX1_block 1 := ⟨by decide, by decide, by decide +kernel⟩
theorem dc_X1_copy : dcl yX1_copy 1 := ⟨by decide, by decide, by decide +kernel⟩
theorem dc_J7_fill_53178 : dcl yJ7_fill_53178 2 := ⟨by decide, by decide, by decide +kernel⟩
theorem dc_X4_allNodes : dcl yX4_allNodes 0 := ⟨by decide, by decide, by decide +kernel⟩

set_option maxHeartbeats 4000000 in
set_option maxRecDepth 100000 in
/-- contains: a bit of a mask -/
theorem c_X6_contains (l : Launch) (D : va_G) (cs : Nat → ClassId) (ad : Ix → Nat) (hap : Apart idsF ad) {σ : Mem} {m v : Int} (hm : 0 ≤ m ∧ m < 2147483648) (hv : 0 ≤ v ∧ v < 31) : CI l D cs idsF ad yX6_contains cX6_contains 2 .boolean 0 [(jI m), (jI v)] σ (fun z τ => τ = σ ∧ z = if bt m v then 1 else 0) := by
  refine CI.of RX6 hap idsF_nd (by decide) rfl (Nat.le_of_ble_eq_true rfl) ?_
  intro pg ev s0 mi av bl mt cd X K hr
  refine zr_iloadn X dX6_contains_0 rfl ?_
  refine zr_iloadn X dX6_contains_1 rfl ?_
  refine zr_ishr X dX6_contains_2 (zb_shr hm.1 hm.2 hv.1 hv.2) ?_
  refine zr_iconst X dX6_contains_3 ?_
  refine zr_iand X dX6_contains_4 ((zb_and1 (sI_rg hm.2).1 (sI_rg hm.2).2).trans (congrArg iI sI_mod)) ?_
  refine zr_iconst X dX6_contains_5 ?_
  refine zr_icmp_ne X 13 dX6_contains_6 (by decide) (by split <;> exact ⟨by decide, by decide⟩) ⟨by omega, by omega⟩ (fun t_6 => ?_) (fun f_6 => ?_)
  · refine zr_iconst X dX6_contains_13 ?_
    refine zr_zret X hr dX6_contains_14 (by omega) ?_
    refine ⟨rfl, ?_⟩
    by_cases h : bt m v = true <;> simp_all
  · refine zr_iconst X dX6_contains_9 ?_
    refine zr_goto X 14 dX6_contains_10 (by decide) ?_
    refine zr_zret X hr dX6_contains_14 (by omega) ?_
    refine ⟨rfl, ?_⟩
    by_cases h : bt m v = true <;> simp_all

/-- what more can go over an arc from one end -/
def rmF (σ : Mem) (b : Nat) (a v : Int) : Int := if σ (0, 2) a = v then σ (b + 6, 2) a - σ (b + 6, 3) a else σ (b + 6, 3) a

set_option maxHeartbeats 4000000 in
set_option maxRecDepth 100000 in
theorem c_X1_room (l : Launch) (D : va_G) (cs : Nat → ClassId) (ad : Ix → Nat) (hap : Apart idsF ad) {b : Nat} (hb : b < 2) {σ : Mem} (hN : NetOk σ) {a v : Int} (ha : 0 ≤ a ∧ a < σ (0, 1) 0) (hv : 0 ≤ v ∧ v < 24) : CI l D cs idsF ad yX1_room cX1_room 3 .int 0 [(.ref (ad (b + 6, 1))), (jI a), (jI v)] σ (fun z τ => τ = σ ∧ z = rmF σ b a v) := by
  refine CI.of RX1 hap idsF_nd (by decide) rfl (Nat.le_of_ble_eq_true rfl) ?_
  intro pg ev s0 mi av bl mt cd X K hr
  have hA := hN.2.1
  have hn := hN.1
  have ht := (hN.2.2 a ha.1 ha.2).1
  have hh := (hN.2.2 a ha.1 ha.2).2.1
  refine zr_aloadn X dX1_room_0 rfl ?_
  refine zr_get X K (C := RX1) (T := TX1) (N := 3) (k := 0) (mB hb (by decide)) rfl rfl ti_1 (by decide) rfl tw_80 rfl dX1_room_1 ?_
  refine zr_getN X K (C := RX4) (T := TX4) (N := 6) (k := 2) mF_0_0 rfl rfl ti_4 (by decide) rfl tn_43 rfl dX1_room_4 ?_
  refine zr_iloadn X dX1_room_7 rfl ?_
  refine zr_iald X K (n := 80) mF_0_2 rfl (by decide) (by omega) dX1_room_8 ?_
  refine zr_iloadn X dX1_room_9 rfl ?_
  refine zr_icmp_ne X 29 dX1_room_10 (by decide) ⟨by omega, by omega⟩ ⟨by omega, by omega⟩ (fun t_10 => ?_) (fun f_10 => ?_)
  · refine zr_aloadn X dX1_room_29 rfl ?_
    refine zr_get X K (C := RX1) (T := TX1) (N := 3) (k := 2) (mB hb (by decide)) rfl rfl ti_1 (by decide) rfl tw_84 rfl dX1_room_30 ?_
    refine zr_iloadn X dX1_room_33 rfl ?_
    refine zr_iald X K (n := 80) (mB hb (by decide)) rfl (by decide) (by omega) dX1_room_34 ?_
    refine zr_iret X hr dX1_room_35 ?_
    exact ⟨rfl, by unfold rmF; split <;> first | rfl | (exfalso; omega)⟩
  · refine zr_aloadn X dX1_room_13 rfl ?_
    refine zr_get X K (C := RX1) (T := TX1) (N := 3) (k := 1) (mB hb (by decide)) rfl rfl ti_1 (by decide) rfl tw_81 rfl dX1_room_14 ?_
    refine zr_iloadn X dX1_room_17 rfl ?_
    refine zr_iald X K (n := 80) (mB hb (by decide)) rfl (by decide) (by omega) dX1_room_18 ?_
    refine zr_aloadn X dX1_room_19 rfl ?_
    refine zr_get X K (C := RX1) (T := TX1) (N := 3) (k := 2) (mB hb (by decide)) rfl rfl ti_1 (by decide) rfl tw_84 rfl dX1_room_20 ?_
    refine zr_iloadn X dX1_room_23 rfl ?_
    refine zr_iald X K (n := 80) (mB hb (by decide)) rfl (by decide) (by omega) dX1_room_24 ?_
    refine zr_isub X dX1_room_25 ?_
    refine zr_goto X 35 dX1_room_26 (by decide) ?_
    refine zr_iret X hr dX1_room_35 ?_
    exact ⟨rfl, by unfold rmF; split <;> first | rfl | (exfalso; omega)⟩

set_option maxHeartbeats 4000000 in
set_option maxRecDepth 100000 in
theorem c_X1_send (l : Launch) (D : va_G) (cs : Nat → ClassId) (ad : Ix → Nat) (hap : Apart idsF ad) {b : Nat} (hb : b < 2) {σ : Mem} (hN : NetOk σ) {a v x : Int} (ha : 0 ≤ a ∧ a < σ (0, 1) 0) (hv : 0 ≤ v ∧ v < 24) : CV l D cs idsF ad yX1_send cX1_send 4 0 [(.ref (ad (b + 6, 1))), (jI a), (jI v), (jI x)] σ (fun τ => τ = mset σ (b + 6, 3) a (σ (b + 6, 3) a + if σ (0, 2) a = v then x else -x)) := by
  refine CV.of RX1 hap idsF_nd (by decide) rfl (Nat.le_of_ble_eq_true rfl) ?_
  intro pg ev s0 mi av bl mt cd X K hr
  have hA := hN.2.1
  have hn := hN.1
  have ht := (hN.2.2 a ha.1 ha.2).1
  have hh := (hN.2.2 a ha.1 ha.2).2.1
  refine zr_aloadn X dX1_send_0 rfl ?_
  refine zr_get X K (C := RX1) (T := TX1) (N := 3) (k := 2) (mB hb (by decide)) rfl rfl ti_1 (by decide) rfl tw_84 rfl dX1_send_1 ?_
  refine zr_iloadn X dX1_send_4 rfl ?_
  refine zr_dup2 X dX1_send_5 rfl rfl ?_
  refine zr_iald X K (n := 80) (mB hb (by decide)) rfl (by decide) (by omega) dX1_send_6 ?_
  refine zr_aloadn X dX1_send_7 rfl ?_
  refine zr_get X K (C := RX1) (T := TX1) (N := 3) (k := 0) (mB hb (by decide)) rfl rfl ti_1 (by decide) rfl tw_80 rfl dX1_send_8 ?_
  refine zr_getN X K (C := RX4) (T := TX4) (N := 6) (k := 2) mF_0_0 rfl rfl ti_4 (by decide) rfl tn_43 rfl dX1_send_11 ?_
  refine zr_iloadn X dX1_send_14 rfl ?_
  refine zr_iald X K (n := 80) mF_0_2 rfl (by decide) (by omega) dX1_send_15 ?_
  refine zr_iloadn X dX1_send_16 rfl ?_
  refine zr_icmp_ne X 24 dX1_send_17 (by decide) ⟨by omega, by omega⟩ ⟨by omega, by omega⟩ (fun t_17 => ?_) (fun f_17 => ?_)
  · refine zr_iloadn X dX1_send_24 rfl ?_
    refine zr_ineg X dX1_send_25 ?_
    refine zr_iadd X dX1_send_26 ?_
    refine zr_iast X K (n := 80) (mB hb (by decide)) (fun _ => rfl) rfl (by decide) (by omega) dX1_send_27 ?_
    refine zr_vret X hr dX1_send_28 ?_
    split <;> first | rfl | (exfalso; omega)
  · refine zr_iloadn X dX1_send_20 rfl ?_
    refine zr_goto X 26 dX1_send_21 (by decide) ?_
    refine zr_iadd X dX1_send_26 ?_
    refine zr_iast X K (n := 80) (mB hb (by decide)) (fun _ => rfl) rfl (by decide) (by omega) dX1_send_27 ?_
    refine zr_vret X hr dX1_send_28 ?_
    split <;> first | rfl | (exfalso; omega)

def otF (σ : Mem) (a v : Int) : Int := if σ (0, 2) a = v then σ (0, 3) a else σ (0, 2) a

set_option maxHeartbeats 4000000 in
set_option maxRecDepth 100000 in
theorem c_X4_otherEnd (l : Launch) (D : va_G) (cs : Nat → ClassId) (ad : Ix → Nat) (hap : Apart idsF ad) {σ : Mem} (hN : NetOk σ) {a v : Int} (ha : 0 ≤ a ∧ a < σ (0, 1) 0) (hv : 0 ≤ v ∧ v < 24) : CI l D cs idsF ad yX4_otherEnd cX4_otherEnd 3 .int 0 [(.ref (ad (0, 0))), (jI a), (jI v)] σ (fun z τ => τ = σ ∧ z = otF σ a v) := by
  refine CI.of RX4 hap idsF_nd (by decide) rfl (Nat.le_of_ble_eq_true rfl) ?_
  intro pg ev s0 mi av bl mt cd X K hr
  have hA := hN.2.1
  have hn := hN.1
  have ht := (hN.2.2 a ha.1 ha.2).1
  have hh := (hN.2.2 a ha.1 ha.2).2.1
  refine zr_aloadn X dX4_otherEnd_0 rfl ?_
  refine zr_get X K (C := RX4) (T := TX4) (N := 6) (k := 2) mF_0_0 rfl rfl ti_4 (by decide) rfl tw_42 rfl dX4_otherEnd_1 ?_
  refine zr_iloadn X dX4_otherEnd_4 rfl ?_
  refine zr_iald X K (n := 80) mF_0_2 rfl (by decide) (by omega) dX4_otherEnd_5 ?_
  refine zr_iloadn X dX4_otherEnd_6 rfl ?_
  refine zr_icmp_ne X 19 dX4_otherEnd_7 (by decide) ⟨by omega, by omega⟩ ⟨by omega, by omega⟩ (fun t_7 => ?_) (fun f_7 => ?_)
  · refine zr_aloadn X dX4_otherEnd_19 rfl ?_
    refine zr_get X K (C := RX4) (T := TX4) (N := 6) (k := 2) mF_0_0 rfl rfl ti_4 (by decide) rfl tw_42 rfl dX4_otherEnd_20 ?_
    refine zr_iloadn X dX4_otherEnd_23 rfl ?_
    refine zr_iald X K (n := 80) mF_0_2 rfl (by decide) (by omega) dX4_otherEnd_24 ?_
    refine zr_iret X hr dX4_otherEnd_25 ?_
    exact ⟨rfl, by unfold otF; split <;> first | rfl | (exfalso; omega)⟩
  · refine zr_aloadn X dX4_otherEnd_10 rfl ?_
    refine zr_get X K (C := RX4) (T := TX4) (N := 6) (k := 3) mF_0_0 rfl rfl ti_4 (by decide) rfl tw_46 rfl dX4_otherEnd_11 ?_
    refine zr_iloadn X dX4_otherEnd_14 rfl ?_
    refine zr_iald X K (n := 80) mF_0_3 rfl (by decide) (by omega) dX4_otherEnd_15 ?_
    refine zr_goto X 25 dX4_otherEnd_16 (by decide) ?_
    refine zr_iret X hr dX4_otherEnd_25 ?_
    exact ⟨rfl, by unfold otF; split <;> first | rfl | (exfalso; omega)⟩
