/-! THE CLASS: cuts, ends -/
theorem pI_le {v : Int} (h : 0 ≤ v ∧ v ≤ 24) : 1 ≤ pI v ∧ pI v ≤ 16777216 := by
  have h1 : 2 ^ v.toNat ≤ 2 ^ 24 := Nat.pow_le_pow_right (by decide) (by omega)
  have h2 : 0 < 2 ^ v.toNat := Nat.pow_pos (by decide)
  have h3 : (2 : Nat) ^ 24 = 16777216 := by decide
  unfold pI
  omega
theorem andN_0 {m v : Int} (hm : rg m) (hv : 0 ≤ v ∧ v ≤ 24) : (iI m &&& (iI (pI v - 1) ^^^ iI (-1))).toInt = 0 ↔ 0 ≤ m ∧ m < pI v := by
  have hp := pI_le hv
  have h0 : ∀ x : Int32, x.toInt = 0 ↔ x.toBitVec.toNat = 0 := fun x => by
    constructor
    · intro h
      have : x = 0 := Int32.toInt_inj.mp h
      rw [this]; rfl
    · intro h
      have : x = 0 := Int32.toBitVec_inj.mp (BitVec.eq_of_toNat_eq (by rw [h]; rfl))
      rw [this]; rfl
  rw [h0]
  have hM : (iI m).toBitVec.toNat = (m % 4294967296).toNat := by
    show (BitVec.ofInt 32 m).toNat = _
    rw [BitVec.toNat_ofInt]
    rfl
  have hK : (iI (pI v - 1) ^^^ iI (-1)).toBitVec.toNat = 2 ^ 32 - 1 - (2 ^ v.toNat - 1) := by
    have e1 : (iI (pI v - 1) ^^^ iI (-1)).toBitVec = ~~~ (BitVec.ofInt 32 (pI v - 1)) := by
      show BitVec.ofInt 32 (pI v - 1) ^^^ BitVec.ofInt 32 (-1) = _
      rw [show BitVec.ofInt 32 (-1) = BitVec.allOnes 32 by decide, BitVec.xor_allOnes]
    rw [e1, BitVec.toNat_not, BitVec.toNat_ofInt]
    have : ((pI v - 1) % ((2 ^ 32 : Nat) : Int)).toNat = 2 ^ v.toNat - 1 := by
      rw [Int.emod_eq_of_lt (by omega) (by have : ((2 ^ 32 : Nat) : Int) = 4294967296 := by decide
                                           omega)]
      unfold pI
      omega
    rw [this]
  have hb : ∀ i, ((iI m &&& (iI (pI v - 1) ^^^ iI (-1))).toBitVec.toNat).testBit i = ((m % 4294967296).toNat.testBit i && decide (v.toNat ≤ i ∧ i < 32)) := fun i => by
    have e : (iI m &&& (iI (pI v - 1) ^^^ iI (-1))).toBitVec.toNat = (iI m).toBitVec.toNat &&& (iI (pI v - 1) ^^^ iI (-1)).toBitVec.toNat := rfl
    rw [e, hM, hK, Nat.testBit_and]
    congr 1
    have hlt : 2 ^ v.toNat - 1 < 2 ^ 32 := by
      have : 2 ^ v.toNat ≤ 2 ^ 24 := Nat.pow_le_pow_right (by decide) (by omega)
      omega
    rw [show 2 ^ 32 - 1 - (2 ^ v.toNat - 1) = 2 ^ 32 - (2 ^ v.toNat - 1 + 1) by omega, Nat.testBit_two_pow_sub_succ hlt, Nat.testBit_two_pow_sub_one]
    by_cases h1 : i < 32 <;> by_cases h2 : i < v.toNat <;> simp [h1, h2] <;> omega
  have h32 : (m % 4294967296).toNat < 2 ^ 32 := by
    have : (2 : Nat) ^ 32 = 4294967296 := by decide
    omega
  constructor
  · intro h
    have h2 : (m % 4294967296).toNat < 2 ^ v.toNat := by
      refine Nat.lt_pow_two_of_testBit _ fun i hi => ?_
      have := hb i
      rw [h, Nat.zero_testBit] at this
      by_cases h3 : i < 32
      · rw [decide_eq_true (⟨hi, h3⟩ : v.toNat ≤ i ∧ i < 32), Bool.and_true] at this
        exact this.symm
      · exact Nat.testBit_lt_two_pow (Nat.lt_of_lt_of_le h32 (Nat.pow_le_pow_right (by decide) (by omega)))
    have h4 : 2 ^ v.toNat ≤ 2 ^ 24 := Nat.pow_le_pow_right (by decide) (by omega)
    have h5 : (2 : Nat) ^ 24 = 16777216 := by decide
    obtain ⟨g1, g2⟩ := hm
    unfold pI
    omega
  · intro h
    refine Nat.eq_of_testBit_eq fun i => ?_
    rw [hb, Nat.zero_testBit]
    have e : (m % 4294967296).toNat < 2 ^ v.toNat := by
      have h5 := h.2
      unfold pI at h5
      omega
    by_cases h3 : v.toNat ≤ i
    · rw [Nat.testBit_lt_two_pow (Nat.lt_of_lt_of_le e (Nat.pow_le_pow_right (by decide) h3)), Bool.false_and]
    · rw [decide_eq_false (fun q => h3 q.1), Bool.and_false]
theorem keepQ.mn {σ τ : Mem} (k : keepQ σ τ) {c : Int → Int} {s t v : Int} (h : mnS τ c s t v) : mnS σ c s t v := by
  have e1 : τ (0, 1) = σ (0, 1) := k.1 0 1 (by decide)
  have e2 : τ (0, 2) = σ (0, 2) := k.1 0 2 (by decide)
  have e3 : τ (0, 3) = σ (0, 3) := k.1 0 3 (by decide)
  unfold mnS at h ⊢
  rw [← e1, ← e2, ← e3]
  exact h
/-- with one arc that can carry all, there is still a cut -/
theorem tr_c8h {σ υ : Mem} {a s t : Int} (h : trP σ υ (updC (σ (6, 2)) a 100000000) s t) (hc : capOk σ) (hst : s ≠ t) (hn : ¬ (σ (0, 2) a = s ∧ σ (0, 3) a = t)) : cut8 υ 1 := by
  have hm := h.1.1.1.2.1
  have e2 : υ (0, 2) = σ (0, 2) := h.2.1 0 2 (by decide)
  have e3 : υ (0, 3) = σ (0, 3) := h.2.1 0 3 (by decide)
  have key : ∀ X : Int → Bool, (X (σ (0, 2) a) = true ∧ ¬ X (σ (0, 3) a) = true → False) → cpo υ 1 X < 100000000 := fun X hX => by
    have : cpo υ 1 X ≤ 80000000 := sm_80 (by omega) fun j j0 j1 => by
      show (if X (υ (0, 2) j) = true ∧ ¬ X (υ (0, 3) j) = true then υ (7, 2) j else 0) ≤ (1000000 : Int)
      rw [e2, e3, h.2.2.1 j j0 (by omega)]
      by_cases e : j = a
      · rw [if_neg (by rw [e]; exact hX)]
        decide
      · rw [show updC (σ (6, 2)) a 100000000 j = σ (6, 2) j from if_neg e]
        have := hc j j0 (by omega)
        split
        · exact this.2
        · decide
    omega
  by_cases q : σ (0, 2) a = s
  · refine ⟨fun v => decide (v ≠ t), ?_, ?_, key _ ?_⟩
    · show decide (υ (7, 8) 0 ≠ t) = true
      rw [h.2.2.2.1]
      exact decide_eq_true hst
    · show ¬ decide (υ (7, 9) 0 ≠ t) = true
      rw [h.2.2.2.2]
      exact fun g => of_decide_eq_true g rfl
    · rintro ⟨-, g⟩
      exact g (decide_eq_true (fun e => hn ⟨q, e⟩))
  · refine ⟨fun v => decide (v = s), ?_, ?_, key _ ?_⟩
    · show decide (υ (7, 8) 0 = s) = true
      rw [h.2.2.2.1]
      exact decide_eq_true rfl
    · show ¬ decide (υ (7, 9) 0 = s) = true
      rw [h.2.2.2.2]
      exact fun g => hst (of_decide_eq_true g).symm
    · rintro ⟨g, -⟩
      exact q (of_decide_eq_true g)
theorem coF_gcp {σ : Mem} {q : Int} : sm (coF σ 0 q) (σ (0, 1) 0).toNat = gcp (σ (0, 1) 0).toNat (σ (0, 2)) (σ (0, 3)) (σ (6, 2)) (bt q) := sm_cong fun a a1 a2 => by
  show (if bt q (σ (0, 2) a) && !bt q (σ (0, 3) a) then σ (6, 2) a else 0) = if bt q (σ (0, 2) a) = true ∧ ¬ bt q (σ (0, 3) a) = true then σ (6, 2) a else 0
  by_cases h1 : bt q (σ (0, 2) a) = true <;> by_cases h2 : bt q (σ (0, 3) a) = true <;> simp [h1, h2]
/-- other ends -/
def keepE (σ τ : Mem) (s t : Int) : Prop := (∀ g k : Nat, g < 6 → τ (g, k) = σ (g, k)) ∧ τ (6, 2) = σ (6, 2) ∧ τ (6, 8) 0 = s ∧ τ (6, 9) 0 = t
theorem keepE.ok {σ τ : Mem} {s t : Int} (k : keepE σ τ s t) (h : fnOk σ) (hm : mfOk τ 0) : fnOk τ := by
  refine ⟨hm, ?_, ?_, ?_⟩
  · have := h.2.1
    unfold capOk at this ⊢
    rw [k.2.1]
    exact this
  · have := h.2.2.1
    unfold lvOk at this ⊢
    have e : ∀ v : Nat, τ (2, v) = σ (2, v) := fun v => k.1 2 v (by decide)
    simp only [k.1 3 0 (by decide), k.1 3 1 (by decide), k.1 3 2 (by decide), k.1 0 0 (by decide), e]
    exact this
  · have := h.2.2.2
    unfold cuOk at this ⊢
    rw [k.1 3 4 (by decide)]
    exact this
theorem ce_keep {σ τ : Mem} {s t z : Int} (hf : fnOk σ) (h : ceP σ τ 0 s t z) : fnOk τ ∧ keepE σ τ s t ∧ (z = 0 ∨ z = 1) ∧ (z = 1 ↔ ¬ (σ (6, 8) 0 = s ∧ σ (6, 9) 0 = t)) := by
  have k : keepE σ τ s t := ⟨fun g q hg => h.2.1 g q (Or.inl (by omega)), h.2.1 6 2 (Or.inr (by decide)), h.2.2.1.1, h.2.2.1.2⟩
  refine ⟨k.ok hf h.1, k, ?_, ?_⟩
  · rcases h.2.2.2 with q | q
    · exact Or.inl q.1
    · exact Or.inr q.1
  · rcases h.2.2.2 with ⟨q1, q2, q3, -⟩ | ⟨q1, q2⟩
    · exact ⟨fun e => by omega, fun e => absurd ⟨q2, q3⟩ e⟩
    · exact ⟨fun _ => q2, fun _ => q1⟩
def botS (σ : Mem) (a : Int) : Prop := σ (6, 2) a ≠ 0 ∧ ∃ X, mcS σ X ∧ X (σ (0, 2) a) = true ∧ ¬ X (σ (0, 3) a) = true
def limS (σ : Mem) (a : Int) : Prop := ∀ X, mcS σ X → X (σ (0, 2) a) = true ∧ ¬ X (σ (0, 3) a) = true
def cutS (σ : Mem) (m : Int) : Prop := (0 ≤ m ∧ m < pI (σ (0, 0) 0)) ∧ bt m (σ (6, 8) 0) = true ∧ ¬ bt m (σ (6, 9) 0) = true

theorem dc_X6_isCut : dcl yX6_isCut 1 := ⟨by decide, by decide, by decide +kernel⟩

set_option maxHeartbeats 4000000 in
set_option maxRecDepth 100000 in
theorem c_X6_setEnds (l : Launch) (D : va_G) (cs : Nat → ClassId) (ad : Ix → Nat) (hap : Apart idsF ad) (hl : l.stackTraces = false) {σ : Mem} (h : fnOk σ) {s t : Int} (hs : rg s) (ht : rg t) (sz : Nat) : CXI l D cs idsF ad yX6_setEnds cX6_setEnds 3 .boolean 7 8 48 sz [(.ref (ad (3, 7))), (jI s), (jI t)] σ (fun z τ => fnOk τ ∧ keepE σ τ s t ∧ ((0 ≤ s ∧ s < σ (0, 0) 0) ∧ (0 ≤ t ∧ t < σ (0, 0) 0) ∧ s ≠ t) ∧ (z = 0 ∨ z = 1) ∧ (z = 1 ↔ ¬ (σ (6, 8) 0 = s ∧ σ (6, 9) 0 = t))) ((fun E => (E = IOB ∧ ¬ ((0 ≤ s ∧ s < σ (0, 0) 0) ∧ (0 ≤ t ∧ t < σ (0, 0) 0))) ∨ ((0 ≤ s ∧ s < σ (0, 0) 0) ∧ (0 ≤ t ∧ t < σ (0, 0) 0) ∧ E = IAE ∧ s = t))) := by
  refine CXI.of RX6 hl hap idsF_nd (by decide) rfl (Nat.le_of_ble_eq_true rfl) ?_
  intro pg ev s0 mi av bl mt cd X K T hr
  have hN := h.net
  have hn := hN.1
  have hm := hN.2.1
  refine zr_aloadn X dX6_setEnds_0 rfl ?_
  refine zr_iloadn X dX6_setEnds_1 rfl ?_
  refine zr_xcallVV X K T (q := (RX6, TX6, 5)) (st := []) (fun sz => c_X6_requireNode l D cs ad hap hl (σ := σ) hN (v := s) hs sz) ⟨tw_350, tw_352, tp_14, tw_1, tw_353⟩ dc_X6_requireNode mF_3_7 rfl rfl rfl rfl rfl (Nat.le_of_ble_eq_true rfl) (by decide) dX6_setEnds_2 ⟨by decide, by decide⟩ (fun E h => Or.inl ⟨h.1, fun q => h.2 q.1⟩) ?_
  intro τ_ hp_
  obtain ⟨hτ_, hS⟩ := hp_
  subst τ_
  refine zr_aloadn X dX6_setEnds_5 rfl ?_
  refine zr_iloadn X dX6_setEnds_6 rfl ?_
  refine zr_xcallVV X K T (q := (RX6, TX6, 5)) (st := []) (fun sz => c_X6_requireNode l D cs ad hap hl (σ := σ) hN (v := t) ht sz) ⟨tw_350, tw_352, tp_14, tw_1, tw_353⟩ dc_X6_requireNode mF_3_7 rfl rfl rfl rfl rfl (Nat.le_of_ble_eq_true rfl) (by decide) dX6_setEnds_7 ⟨by decide, by decide⟩ (fun E h => Or.inl ⟨h.1, fun q => h.2 q.2⟩) ?_
  intro τ_ hp_
  obtain ⟨hτ_, hT⟩ := hp_
  subst τ_
  refine zr_iloadn X dX6_setEnds_10 rfl ?_
  refine zr_iloadn X dX6_setEnds_11 rfl ?_
  refine zr_xcallSV X K T (st := []) (fun sz => c_X6_requireDifferent l D cs ad hap hl (σ := σ) (v := s) (w := t) hs ht sz) ⟨tw_369, tw_370, tw_1, tw_371⟩ dc_X6_requireDifferent rfl rfl (Nat.le_of_ble_eq_true rfl) (by decide) dX6_setEnds_12 ⟨by decide, by decide⟩ (fun E h => Or.inr ⟨hS, hT, h⟩) ?_
  intro τ_ hp_
  obtain ⟨hτ_, hD⟩ := hp_
  subst τ_
  refine zr_aloadn X dX6_setEnds_15 rfl ?_
  refine zr_get X K (C := RX6) (T := TX6) (N := 5) (k := 1) mF_3_7 rfl rfl ti_6 (by decide) rfl tw_180 rfl dX6_setEnds_16 ?_
  refine zr_iloadn X dX6_setEnds_19 rfl ?_
  refine zr_iloadn X dX6_setEnds_20 rfl ?_
  refine zr_callNI X K (q := (RX3, TX3, 6)) (st := []) (c_X3_chooseEnds l D cs ad hap (b := 0) (by decide) (σ := σ) h.1 (s := s) (t := t) (Or.inr ⟨hS, hT, hD⟩)) ⟨tn_373, tw_375, tp_15, tw_3, tw_376⟩ dc_X3_chooseEnds mF_6_0 rfl rfl rfl rfl rfl (Nat.le_of_ble_eq_true rfl) (by decide) dX6_setEnds_21 ?_
  intro z τ hce
  have hk := ce_keep h hce
  refine zr_xzret X ⟨by decide, by decide⟩ hr dX6_setEnds_24 hk.2.2.1 ?_
  exact ⟨hk.1, hk.2.1, ⟨hS, hT, hD⟩, hk.2.2⟩

set_option maxHeartbeats 4000000 in
set_option maxRecDepth 100000 in
theorem c_X6_smallestCut (l : Launch) (D : va_G) (cs : Nat → ClassId) (ad : Ix → Nat) (hap : Apart idsF ad) (hl : l.stackTraces = false) {σ : Mem} (h : fnOk σ) (sz : Nat) : CXI l D cs idsF ad yX6_smallestCut cX6_smallestCut 1 .int 7 8 48 sz [(.ref (ad (3, 7)))] σ (fun z τ => fnOk τ ∧ keepQ σ τ ∧ endsYes σ 0 ∧ smP σ z) ((fun E => E = ISE ∧ endsNo σ 0)) := by
  refine CXI.of RX6 hl hap idsF_nd (by decide) rfl (Nat.le_of_ble_eq_true rfl) ?_
  intro pg ev s0 mi av bl mt cd X K T hr
  have hN := h.net
  have hn := hN.1
  have hm := hN.2.1
  refine zr_aloadn X dX6_smallestCut_0 rfl ?_
  refine zr_xcallVV X K T (q := (RX6, TX6, 5)) (st := []) (fun sz => c_X6_requireEnds l D cs ad hap hl (σ := σ) hN h.ends sz) ⟨tw_382, tw_384, tp_16, tw_1, tw_385⟩ dc_X6_requireEnds mF_3_7 rfl rfl rfl rfl rfl (Nat.le_of_ble_eq_true rfl) (by decide) dX6_smallestCut_1 ⟨by decide, by decide⟩ (fun E h => h) ?_
  intro τ_ hp_
  obtain ⟨hτ_, hEy⟩ := hp_
  subst τ_
  refine zr_aloadn X dX6_smallestCut_4 rfl ?_
  refine zr_get X K (C := RX6) (T := TX6) (N := 5) (k := 1) mF_3_7 rfl rfl ti_6 (by decide) rfl tw_180 rfl dX6_smallestCut_5 ?_
  refine zr_callNI X K (q := (RX3, TX3, 6)) (st := []) (c_X3_smallestMask l D cs ad hap (b := 0) (by decide) (σ := σ) h.1 hEy (cut_0 h hEy)) ⟨tn_479, tw_481, tp_27, tw_3, tw_482⟩ dc_X3_smallestMask mF_6_0 rfl rfl rfl rfl rfl (Nat.le_of_ble_eq_true rfl) (by decide) dX6_smallestCut_8 ?_
  intro z τ hmk
  have hk := st_keep h hmk.1
  refine zr_xiret X ⟨by decide, by decide⟩ hr dX6_smallestCut_11 ?_
  exact ⟨hk.1, hk.2, hEy, sm_of hEy hmk.1 hmk.2⟩

set_option maxHeartbeats 4000000 in
set_option maxRecDepth 100000 in
theorem c_X6_greatestCut (l : Launch) (D : va_G) (cs : Nat → ClassId) (ad : Ix → Nat) (hap : Apart idsF ad) (hl : l.stackTraces = false) {σ : Mem} (h : fnOk σ) (sz : Nat) : CXI l D cs idsF ad yX6_greatestCut cX6_greatestCut 1 .int 7 8 48 sz [(.ref (ad (3, 7)))] σ (fun z τ => fnOk τ ∧ keepQ σ τ ∧ endsYes σ 0 ∧ gtP σ z) ((fun E => E = ISE ∧ endsNo σ 0)) := by
  refine CXI.of RX6 hl hap idsF_nd (by decide) rfl (Nat.le_of_ble_eq_true rfl) ?_
  intro pg ev s0 mi av bl mt cd X K T hr
  have hN := h.net
  have hn := hN.1
  have hm := hN.2.1
  refine zr_aloadn X dX6_greatestCut_0 rfl ?_
  refine zr_xcallVV X K T (q := (RX6, TX6, 5)) (st := []) (fun sz => c_X6_requireEnds l D cs ad hap hl (σ := σ) hN h.ends sz) ⟨tw_382, tw_384, tp_16, tw_1, tw_385⟩ dc_X6_requireEnds mF_3_7 rfl rfl rfl rfl rfl (Nat.le_of_ble_eq_true rfl) (by decide) dX6_greatestCut_1 ⟨by decide, by decide⟩ (fun E h => h) ?_
  intro τ_ hp_
  obtain ⟨hτ_, hEy⟩ := hp_
  subst τ_
  refine zr_aloadn X dX6_greatestCut_4 rfl ?_
  refine zr_get X K (C := RX6) (T := TX6) (N := 5) (k := 1) mF_3_7 rfl rfl ti_6 (by decide) rfl tw_180 rfl dX6_greatestCut_5 ?_
  refine zr_callNI X K (q := (RX3, TX3, 6)) (st := []) (c_X3_greatestMask l D cs ad hap (b := 0) (by decide) (σ := σ) h.1 hEy (cut_0 h hEy)) ⟨tn_496, tw_498, tp_30, tw_3, tw_499⟩ dc_X3_greatestMask mF_6_0 rfl rfl rfl rfl rfl (Nat.le_of_ble_eq_true rfl) (by decide) dX6_greatestCut_8 ?_
  intro z τ hmk
  have hk := st_keep h hmk.1
  refine zr_xiret X ⟨by decide, by decide⟩ hr dX6_greatestCut_11 ?_
  exact ⟨hk.1, hk.2, hEy, gt_of hEy hmk.1 hmk.2⟩





set_option maxHeartbeats 4000000 in
set_option maxRecDepth 100000 in
theorem c_X4_allNodes (l : Launch) (D : va_G) (cs : Nat → ClassId) (ad : Ix → Nat) (hap : Apart idsF ad) {σ : Mem} (hN : NetOk σ) : CI l D cs idsF ad yX4_allNodes cX4_allNodes 1 .int 0 [(.ref (ad (0, 0)))] σ (fun z τ => τ = σ ∧ z = pI (σ (0, 0) 0) - 1) := by
  refine CI.of RX4 hap idsF_nd (by decide) rfl (Nat.le_of_ble_eq_true rfl) ?_
  intro pg ev s0 mi av bl mt cd X K hr
  have hn := hN.1
  refine zr_iconst X dX4_allNodes_0 ?_
  refine zr_aloadn X dX4_allNodes_1 rfl ?_
  refine zr_get X K (C := RX4) (T := TX4) (N := 6) (k := 0) mF_0_0 rfl rfl ti_4 (by decide) rfl tw_33 rfl dX4_allNodes_2 ?_
  refine zr_ishl X dX4_allNodes_5 (zb_shl (by omega) (by omega)) ?_
  refine zr_iconst X dX4_allNodes_6 ?_
  refine zr_isub X dX4_allNodes_7 ?_
  refine zr_iret X hr dX4_allNodes_8 ?_
  exact ⟨rfl, rfl⟩

set_option maxHeartbeats 4000000 in
set_option maxRecDepth 100000 in
theorem c_X6_isCut (l : Launch) (D : va_G) (cs : Nat → ClassId) (ad : Ix → Nat) (hap : Apart idsF ad) {σ : Mem} (h : fnOk σ) (hE : endsYes σ 0) {m : Int} (hM : rg m) : CI l D cs idsF ad yX6_isCut cX6_isCut 2 .boolean 1 [(.ref (ad (3, 7))), (jI m)] σ (fun z τ => τ = σ ∧ (z = 0 ∨ z = 1) ∧ (z = 1 ↔ cutS σ m)) := by
  refine CI.of RX6 hap idsF_nd (by decide) rfl (Nat.le_of_ble_eq_true rfl) ?_
  intro pg ev s0 mi av bl mt cd X K hr
  have hN := h.net
  have hn := hN.1
  have hm := hN.2.1
  have hEe := ends_of hE
  have hp := pI_le hn
  refine zr_iloadn X dX6_isCut_0 rfl ?_
  refine zr_aloadn X dX6_isCut_1 rfl ?_
  refine zr_get X K (C := RX6) (T := TX6) (N := 5) (k := 0) mF_3_7 rfl rfl ti_6 (by decide) rfl tw_179 rfl dX6_isCut_2 ?_
  refine zr_callNI X K (q := (RX4, TX4, 6)) (st := [(jI m)]) (c_X4_allNodes l D cs ad hap (σ := σ) hN) ⟨tn_462, tw_464, tp_25, tw_2, tw_465⟩ dc_X4_allNodes mF_0_0 rfl rfl rfl rfl rfl (Nat.le_of_ble_eq_true rfl) (by decide) dX6_isCut_5 ?_
  intro z_ τ_ hp_
  obtain ⟨hτ_, hz_⟩ := hp_
  subst τ_
  subst z_
  refine zr_iconst X dX6_isCut_8 ?_
  refine zr_ixor X dX6_isCut_9 (iI_self _).symm ?_
  refine zr_iand X dX6_isCut_10 (iI_self _).symm ?_
  refine zr_if_ne X 46 dX6_isCut_11 (by decide) (iI_rg _) (fun t_11 => ?_) (fun f_11 => ?_)
  · have hz : ¬ cutS σ m := fun g => t_11 (by rw [iI_self]; exact (andN_0 hM hn).mpr g.1)
    refine zr_iconst X dX6_isCut_46 ?_
    refine zr_zret X hr dX6_isCut_47 (by omega) ?_
    exact ⟨rfl, Or.inl rfl, fun q => absurd q (by decide), fun q => absurd q hz⟩
  · have hz0 : 0 ≤ m ∧ m < pI (σ (0, 0) 0) := (andN_0 hM hn).mp (by rw [iI_self] at f_11; exact f_11)
    refine zr_iloadn X dX6_isCut_14 rfl ?_
    refine zr_aloadn X dX6_isCut_15 rfl ?_
    refine zr_get X K (C := RX6) (T := TX6) (N := 5) (k := 1) mF_3_7 rfl rfl ti_6 (by decide) rfl tw_180 rfl dX6_isCut_16 ?_
    refine zr_getN X K (v := (jI (σ (6, 8) 0))) (C := RX3) (T := TX3) (N := 6) (k := 3) mF_6_0 rfl rfl ti_3 (by decide) rfl tn_128 rfl dX6_isCut_19 ?_
    refine zr_callSI X K (st := []) (c_X6_contains l D cs ad hap (m := m) (v := σ (6, 8) 0) ⟨by omega, by omega⟩ ⟨by omega, by omega⟩) ⟨tw_466, tw_467, tw_1, tw_468⟩ dc_X6_contains rfl rfl (Nat.le_of_ble_eq_true rfl) (by decide) dX6_isCut_22 ?_
    intro z_ τ_ hp_
    obtain ⟨hτ_, hz_⟩ := hp_
    subst τ_
    subst z_
    refine zr_if_eq X 46 dX6_isCut_25 (by decide) ite01 (fun t_25 => ?_) (fun f_25 => ?_)
    · have hz : ¬ cutS σ m := fun g => ite0 t_25 g.2.1
      refine zr_iconst X dX6_isCut_46 ?_
      refine zr_zret X hr dX6_isCut_47 (by omega) ?_
      exact ⟨rfl, Or.inl rfl, fun q => absurd q (by decide), fun q => absurd q hz⟩
    · refine zr_iloadn X dX6_isCut_28 rfl ?_
      refine zr_aloadn X dX6_isCut_29 rfl ?_
      refine zr_get X K (C := RX6) (T := TX6) (N := 5) (k := 1) mF_3_7 rfl rfl ti_6 (by decide) rfl tw_180 rfl dX6_isCut_30 ?_
      refine zr_getN X K (v := (jI (σ (6, 9) 0))) (C := RX3) (T := TX3) (N := 6) (k := 4) mF_6_0 rfl rfl ti_3 (by decide) rfl tn_130 rfl dX6_isCut_33 ?_
      refine zr_callSI X K (st := []) (c_X6_contains l D cs ad hap (m := m) (v := σ (6, 9) 0) ⟨by omega, by omega⟩ ⟨by omega, by omega⟩) ⟨tw_466, tw_467, tw_1, tw_468⟩ dc_X6_contains rfl rfl (Nat.le_of_ble_eq_true rfl) (by decide) dX6_isCut_36 ?_
      intro z_ τ_ hp_
      obtain ⟨hτ_, hz_⟩ := hp_
      subst τ_
      subst z_
      refine zr_if_ne X 46 dX6_isCut_39 (by decide) ite01 (fun t_39 => ?_) (fun f_39 => ?_)
      · have hz : ¬ cutS σ m := fun g => g.2.2 (ite1 t_39)
        refine zr_iconst X dX6_isCut_46 ?_
        refine zr_zret X hr dX6_isCut_47 (by omega) ?_
        exact ⟨rfl, Or.inl rfl, fun q => absurd q (by decide), fun q => absurd q hz⟩
      · have hz : cutS σ m := ⟨hz0, ite1 f_25, ite0 f_39⟩
        refine zr_iconst X dX6_isCut_42 ?_
        refine zr_goto X 47 dX6_isCut_43 (by decide) ?_
        refine zr_zret X hr dX6_isCut_47 (by omega) ?_
        exact ⟨rfl, Or.inr rfl, fun _ => hz, fun _ => rfl⟩

set_option maxHeartbeats 4000000 in
set_option maxRecDepth 100000 in
theorem c_X6_cutCapacity (l : Launch) (D : va_G) (cs : Nat → ClassId) (ad : Ix → Nat) (hap : Apart idsF ad) (hl : l.stackTraces = false) {σ : Mem} (h : fnOk σ) {m : Int} (hM : rg m) (sz : Nat) : CXI l D cs idsF ad yX6_cutCapacity cX6_cutCapacity 2 .int 7 8 48 sz [(.ref (ad (3, 7))), (jI m)] σ (fun z τ => τ = σ ∧ endsYes σ 0 ∧ cutS σ m ∧ z = gcp (σ (0, 1) 0).toNat (σ (0, 2)) (σ (0, 3)) (σ (6, 2)) (bt m)) ((fun E => (E = ISE ∧ endsNo σ 0) ∨ (endsYes σ 0 ∧ E = IAE ∧ ¬ cutS σ m))) := by
  refine CXI.of RX6 hl hap idsF_nd (by decide) rfl (Nat.le_of_ble_eq_true rfl) ?_
  intro pg ev s0 mi av bl mt cd X K T hr
  have hN := h.net
  have hn := hN.1
  have hm := hN.2.1
  have hp := pI_le hn
  refine zr_aloadn X dX6_cutCapacity_0 rfl ?_
  refine zr_xcallVV X K T (q := (RX6, TX6, 5)) (st := []) (fun sz => c_X6_requireEnds l D cs ad hap hl (σ := σ) hN h.ends sz) ⟨tw_382, tw_384, tp_16, tw_1, tw_385⟩ dc_X6_requireEnds mF_3_7 rfl rfl rfl rfl rfl (Nat.le_of_ble_eq_true rfl) (by decide) dX6_cutCapacity_1 ⟨by decide, by decide⟩ (fun E h => Or.inl h) ?_
  intro τ_ hp_
  obtain ⟨hτ_, hEy⟩ := hp_
  subst τ_
  refine zr_aloadn X dX6_cutCapacity_4 rfl ?_
  refine zr_iloadn X dX6_cutCapacity_5 rfl ?_
  refine zr_callVI X K (q := (RX6, TX6, 5)) (st := []) (c_X6_isCut l D cs ad hap (σ := σ) h hEy hM) ⟨tw_458, tw_460, tp_24, tw_1, tw_461⟩ dc_X6_isCut mF_3_7 rfl rfl rfl rfl rfl (Nat.le_of_ble_eq_true rfl) (by decide) dX6_cutCapacity_6 ?_
  intro z τ_ hp_
  obtain ⟨hτ_, hz01, hz⟩ := hp_
  subst τ_
  refine zr_if_ne X 22 dX6_cutCapacity_9 (by decide) (by rcases hz01 with q | q <;> exact ⟨by omega, by omega⟩) (fun t_9 => ?_) (fun f_9 => ?_)
  · have hcu : cutS σ m := hz.mp (by omega)
    refine zr_aloadn X dX6_cutCapacity_22 rfl ?_
    refine zr_get X K (C := RX6) (T := TX6) (N := 5) (k := 1) mF_3_7 rfl rfl ti_6 (by decide) rfl tw_180 rfl dX6_cutCapacity_23 ?_
    refine zr_getN X K (v := (.ref (ad (6, 1)))) (C := RX3) (T := TX3) (N := 6) (k := 1) mF_6_0 rfl rfl ti_3 (by decide) rfl tn_124 rfl dX6_cutCapacity_26 ?_
    refine zr_iloadn X dX6_cutCapacity_29 rfl ?_
    refine zr_callNI X K (q := (RX1, TX1, 3)) (st := []) (c_X1_capacityOut l D cs ad hap (b := 0) (by decide) (σ := σ) hN (q := m) ⟨hcu.1.1, by have := hcu.1.2; omega⟩) ⟨tn_470, tw_472, tp_26, tw_4, tw_473⟩ dc_X1_capacityOut mF_6_1 rfl rfl rfl rfl rfl (Nat.le_of_ble_eq_true rfl) (by decide) dX6_cutCapacity_30 ?_
    intro z_ τ_ hp_
    obtain ⟨hτ_, hz_⟩ := hp_
    subst τ_
    subst z_
    refine zr_xiret X ⟨by decide, by decide⟩ hr dX6_cutCapacity_33 ?_
    exact ⟨rfl, hEy, hcu, coF_gcp⟩
  · exact zr_throw (E := IAE) (tx := "this is not the mask of a cut") X K T st_147 tw_275 tw_13 xat_IAE xgd_IAE (by decide +kernel) dX6_cutCapacity_12 dX6_cutCapacity_15 dX6_cutCapacity_16 dX6_cutCapacity_18 dX6_cutCapacity_21 ⟨Nat.le_of_ble_eq_true rfl, Nat.le_of_ble_eq_true rfl, Nat.le_of_ble_eq_true rfl, Nat.le_of_ble_eq_true rfl⟩ ⟨by decide, by decide⟩ (Or.inr ⟨hEy, rfl, fun g => absurd (hz.mpr g) (by omega)⟩)
