/-! THE CLASS: cuts, ends -/
theorem pI_le {v : Int} (h : 0 ≤ v ∧ v ≤ 24) : 1 ≤ pI v ∧ pI v ≤ 16777216 := by
  have h1 : 2 ^ v.toNat ≤ 2 ^ 24 := Nat.pow_le_pow_right (by decide) (by omega)
  have h2 : 0 < 2 ^ v.toNat := Nat.pow_pos (by decide)
  have h3 : (2 : Nat) ^ 24 = 16777216 := by decide
  unfold pI
  omega
theorem andN_0 {m v : Int} (hm : rg m) (hv : 0 ≤ v ∧ v ≤ 24) : (iI m &&& (iI (pI v - 1) ^^^ iI (-1))).toInt = 0 ↔ 0 ≤ m ∧ m < pI v := by
  have hp := pI_le hv
  have h0 : ∀ x : Int32, x.toInt = 0 ↔ x.toBitVec.toNat = 0 := fun x => by
    constructor
    · intro h
      have : x = 0 := Int32.toInt_inj.mp h
      rw [this]; rfl
    · intro h
      have : x = 0 := Int32.toBitVec_inj.mp (BitVec.eq_of_toNat_eq (by rw [h]; rfl))
      rw [this]; rfl
  rw [h0]
  have hM : (iI m).toBitVec.toNat = (m % 4294967296).toNat := by
    show (BitVec.ofInt 32 m).toNat = _
    rw [BitVec.toNat_ofInt]
    rfl
  have hK : (iI (pI v - 1) ^^^ iI (-1)).toBitVec.toNat = 2 ^ 32 - 1 - (2 ^ v.toNat - 1) := by
    have e1 : (iI (pI v - 1) ^^^ iI (-1)).toBitVec = ~~~ (BitVec.ofInt 32 (pI v - 1)) := by
      show BitVec.ofInt 32 (pI v - 1) ^^^ BitVec.ofInt 32 (-1) = _
      rw [show BitVec.ofInt 32 (-1) = BitVec.allOnes 32 by decide, BitVec.xor_allOnes]
    rw [e1, BitVec.toNat_not, BitVec.toNat_ofInt]
    have : ((pI v - 1) % ((2 ^ 32 : Nat) : Int)).toNat = 2 ^ v.toNat - 1 := by
      rw [Int.emod_eq_of_lt (by omega) (by have : ((2 ^ 32 : Nat) : Int) = 4294967296 := by decide
                                           omega)]
      unfold pI
      omega
    rw [this]
  have hb : ∀ i, ((iI m &&& (iI (pI v - 1) ^^^ iI (-1))).toBitVec.toNat).testBit i = ((m % 4294967296).toNat.testBit i && decide (v.toNat ≤ i ∧ i < 32)) := fun i => by
    have e : (iI m &&& (iI (pI v - 1) ^^^ iI (-1))).toBitVec.toNat = (iI m).toBitVec.toNat &&& (iI (pI v - 1) ^^^ iI (-1)).toBitVec.toNat := rfl
    rw [e, hM, hK, Nat.testBit_and]
    congr 1
    have hlt : 2 ^ v.toNat - 1 < 2 ^ 32 := by
      have : 2 ^ v.toNat ≤ 2 ^ 24 := Nat.pow_le_pow_right (by decide) (by omega)
      omega
    rw [show 2 ^ 32 - 1 - (2 ^ v.toNat - 1) = 2 ^ 32 - (2 ^ v.toNat - 1 + 1) by omega, Nat.testBit_two_pow_sub_succ hlt, Nat.testBit_two_pow_sub_one]
    by_cases h1 : i < 32 <;> by_cases h2 : i < v.toNat <;> simp [h1, h2] <;> omega
  have h32 : (m % 4294967296).toNat < 2 ^ 32 := by
    have : (2 : Nat) ^ 32 = 4294967296 := by decide
    omega
  constructor
  · intro h
    have h2 : (m % 4294967296).toNat < 2 ^ v.toNat := by
      refine Nat.lt_pow_two_of_testBit _ fun i hi => ?_
      have := hb i
      rw [h, Nat.zero_testBit] at this
      by_cases h3 : i < 32
      · rw [decide_eq_true (⟨hi, h3⟩ : v.toNat ≤ i ∧ i < 32), Bool.and_true] at this
        exact this.symm
      · exact Nat.testBit_lt_two_pow (Nat.lt_of_lt_of_le h32 (Nat.pow_le_pow_right (by decide) (by omega)))
    have h4 : 2 ^ v.toNat ≤ 2 ^ 24 := Nat.pow_le_pow_right (by decide) (by omega)
    have h5 : (2 : Nat) ^ 24 = 16777216 := by decide
    obtain ⟨g1, g2⟩ := hm
    unfold pI
    omega
  · intro h
    refine Nat.eq_of_testBit_eq fun i => ?_
    rw [hb, Nat.zero_testBit]
    have e : (m % 4294967296).toNat < 2 ^ v.toNat := by
      have h5 := h.2
      unfold pI at h5
      omega
    by_cases h3 : v.toNat ≤ i
    · rw [Nat.testBit_lt_two_pow (Nat.lt_of_lt_of_le e (Nat.pow_le_pow_right (by decide) h3)), Bool.false_and]
    · rw [decide_eq_false (fun q => h3 q.1), Bool.and_false]
theorem keepQ.mn {σ τ : Mem} (k : keepQ σ τ) {c : Int → Int} {s t v : Int} (h : mnS τ c s t v) : mnS σ c s t v := by
  have e1 : τ (0, 1) = σ (0, 1) := k.1 0 1 (by decide)
  have e2 : τ (0, 2) = σ (0, 2) := k.1 0 2 (by decide)
  have e3 : τ (0, 3) = σ (0, 3) := k.1 0 3 (by decide)
  unfold mnS at h ⊢
  rw [← e1, ← e2, ← e3]
  exact h
/-- with one arc that can carry all, there is still a cut -/
theorem tr_c8h {σ υ : Mem} {a s t : Int} (h : trP σ υ (updC (σ (6, 2)) a 100000000) s t) (hc : capOk σ) (hst : s ≠ t) (hn : ¬ (σ (0, 2) a = s ∧ σ (0, 3) a = t)) : cut8 υ 1 := by
  have hm := h.1.1.1.2.1
  have e2 : υ (0, 2) = σ (0, 2) := h.2.1 0 2 (by decide)
  have e3 : υ (0, 3) = σ (0, 3) := h.2.1 0 3 (by decide)
  have key : ∀ X : Int → Bool, (X (σ (0, 2) a) = true ∧ ¬ X (σ (0, 3) a) = true → False) → cpo υ 1 X < 100000000 := fun X hX => by
    have : cpo υ 1 X ≤ 80000000 := sm_80 (by omega) fun j j0 j1 => by
      show (if X (υ (0, 2) j) = true ∧ ¬ X (υ (0, 3) j) = true then υ (7, 2) j else 0) ≤ (1000000 : Int)
      rw [e2, e3, h.2.2.1 j j0 (by omega)]
      by_cases e : j = a
      · rw [if_neg (by rw [e]; exact hX)]
        decide
      · rw [show updC (σ (6, 2)) a 100000000 j = σ (6, 2) j from if_neg e]
        have := hc j j0 (by omega)
        split
        · exact this.2
        · decide
    omega
  by_cases q : σ (0, 2) a = s
  · refine ⟨fun v => decide (v ≠ t), ?_, ?_, key _ ?_⟩
    · show decide (υ (7, 8) 0 ≠ t) = true
      rw [h.2.2.2.1]
      exact decide_eq_true hst
    · show ¬ decide (υ (7, 9) 0 ≠ t) = true
      rw [h.2.2.2.2]
      exact fun g => of_decide_eq_true g rfl
    · rintro ⟨-, g⟩
      exact g (decide_eq_true (fun e => hn ⟨q, e⟩))
  · refine ⟨fun v => decide (v = s), ?_, ?_, key _ ?_⟩
    · show decide (υ (7, 8) 0 = s) = true
      rw [h.2.2.2.1]
      exact decide_eq_true rfl
    · show ¬ decide (υ (7, 9) 0 = s) = true
      rw [h.2.2.2.2]
      exact fun g => hst (of_decide_eq_true g).symm
    · rintro ⟨g, -⟩
      exact q (of_decide_eq_true g)
theorem coF_gcp {σ : Mem} {q : Int} : sm (coF σ 0 q) (σ (0, 1) 0).toNat = gcp (σ (0, 1) 0).toNat (σ (0, 2)) (σ (0, 3)) (σ (6, 2)) (bt q) := sm_cong fun a a1 a2 => by
  show (if bt q (σ (0, 2) a) && !bt q (σ (0, 3) a) then σ (6, 2) a else 0) = if bt q (σ (0, 2) a) = true ∧ ¬ bt q (σ (0, 3) a) = true then σ (6, 2) a else 0
  by_cases h1 : bt q (σ (0, 2) a) = true <;> by_cases h2 : bt q (σ (0, 3) a) = true <;> simp [h1, h2]
/-- other ends -/
def keepE (σ τ : Mem) (s t : Int) : Prop := (∀ g k : Nat, g < 6 → τ (g, k) = σ (g, k)) ∧ τ (6, 2) = σ (6, 2) ∧ τ (6, 8) 0 = s ∧ τ (6, 9) 0 = t
theorem keepE.ok {σ τ : Mem} {s t : Int} (k : keepE σ τ s t) (h : fnOk σ) (hm : mfOk τ 0) : fnOk τ := by
  refine ⟨hm, ?_, ?_, ?_⟩
  · have := h.2.1
    unfold capOk at this ⊢
    rw [k.2.1]
    exact this
  · have := h.2.2.1
    unfold lvOk at this ⊢
    have e : ∀ v : Nat, τ (2, v) = σ (2, v) := fun v => k.1 2 v (by decide)
    simp only [k.1 3 0 (by decide), k.1 3 1 (by decide), k.1 3 2 (by decide), k.1 0 0 (by decide), e]
    exact this
  · have := h.2.2.2
    unfold cuOk at this ⊢
    rw [k.1 3 4 (by decide)]
    exact this
theorem ce_keep {σ τ : Mem} {s t z : Int} (hf : fnOk σ) (h : ceP σ τ 0 s t z) : fnOk τ ∧ keepE σ τ s t ∧ (z = 0 ∨ z = 1) ∧ (z = 1 ↔ ¬ (σ (6, 8) 0 = s ∧ σ (6, 9) 0 = t)) := by
  have k : keepE σ τ s t := ⟨fun g q hg => h.2.1 g q (Or.inl (by omega)), h.2.1 6 2 (Or.inr (by decide)), h.2.2.1.1, h.2.2.1.2⟩
  refine ⟨k.ok hf h.1, k, ?_, ?_⟩
  · rcases h.2.2.2 with q | q
    · exact Or.inl q.1
    · exact Or.inr q.1
  · rcases h.2.2.2 with ⟨q1, q2, q3, -⟩ | ⟨q1, q2⟩
    · exact ⟨fun e => by omega, fun e => absurd ⟨q2, q3⟩ e⟩
    · exact ⟨fun _ => q2, fun _ => q1⟩
def botS (σ : Mem) (a : Int) : Prop := σ (6, 2) a ≠ 0 ∧ ∃ X, mcS σ X ∧ X (σ (0, 2) a) = true ∧ ¬ X (σ (0, 3) a) = true
def limS (σ : Mem) (a : Int) : Prop := ∀ X, mcS σ X → X (σ (0, 2) a) = true ∧ ¬ X (σ (0, 3) a) = true
def cutS (σ : Mem) (m : Int) : Prop := (0 ≤ m ∧ m < pI (σ (0, 0) 0)) ∧ bt m (σ (6, 8) 0) = true ∧ ¬ bt m (σ (6, 9) 0) = true

theorem dc_X6_isCut : dcl yX6_isCut 1 := ⟨by decide, by decide, by decide +kernel⟩

set_option maxHeartbeats 4000000 in
set_option maxRecDepth 100000 in
theorem c_X6_setEnds (l : Launch) (D : va_G) (cs : Nat → ClassId) (ad : Ix → Nat) (hap : Apart idsF ad) (hl : l.stackTraces = false) {σ : Mem} (h : fnOk σ) {s t : Int} (hs : rg s) (ht : rg t) (sz : Nat) : CXI l D cs idsF ad yX6_setEnds cX6_setEnds 3 .boolean 7 8 48 sz [(.ref (ad (3, 7))), (jI s), (jI t)] σ (fun z τ => fnOk τ ∧ keepE σ τ s t ∧ ((0 ≤ s ∧ s < σ (0, 0) 0) ∧ (0 ≤ t ∧ t < σ (0, 0) 0) ∧ s ≠ t) ∧ (z = 0 ∨ z = 1) ∧ (z = 1 ↔ ¬ (σ (6, 8) 0 = s ∧ σ (6, 9) 0 = t))) ((fun E => (E = IOB ∧ ¬ ((0 ≤ s ∧ s < σ (0, 0) 0) ∧ (0 ≤ t ∧ t < σ (0, 0) 0))) ∨ ((0 ≤ s ∧ s < σ (0, 0) 0) ∧ (0 ≤ t ∧ t < σ (0, 0) 0) ∧ E = IAE ∧ s = t))) := by
  refine CXI.of RX6 hl hap idsF_nd (by decide) rfl (Nat.le_of_ble_eq_true rfl) ?_
  intro pg ev s0 mi av bl mt cd X K T hr
  have hN := h.net
  have hn := hN.1
  have hm := hN.2.1
  refine zr_aloadn X dX6_setEnds_0 rfl ?_
  refine zr_iloadn X dX6_setEnds_1 rfl ?_
  refine zr_xcallVV X K T (q := (RX6, TX6, 5)) (st := []) (fun sz => c_X6_requireNode l D cs ad hap hl (σ := σ) hN (v := s) hs sz) ⟨tw_400, tw_402, tp_19, tw_1, tw_403⟩ dc_X6_requireNode mF_3_7 rfl rfl rfl rfl rfl (Nat.le_of_ble_eq_true rfl) (by decide) dX6_setEnds_2 ⟨by decide, by decide⟩ (fun E h => Or.inl ⟨h.1, fun q => h.2 q.1⟩) ?_
  intro τ_ hp_
  obtain ⟨hτ_, hS⟩ := hp_
  subst τ_
  refine zr_aloadn X dX6_setEnds_5 rfl ?_
  refine zr_iloadn X dX6_setEnds_6 rfl ?_
  refine zr_xcallVV X K T (q := (RX6, TX6, 5)) (st := []) (fun sz => c_X6_requireNode l D cs ad hap hl (σ := σ) hN (v := t) ht sz) ⟨tw_400, tw_402, tp_19, tw_1, tw_403⟩ dc_X6_requireNode mF_3_7 rfl rfl rfl rfl rfl (Nat.le_of_ble_eq_true rfl) (by decide) dX6_setEnds_7 ⟨by decide, by decide⟩ (fun E h => Or.inl ⟨h.1, fun q => h.2 q.2⟩) ?_
  intro τ_ hp_
  obtain ⟨hτ_, hT⟩ := hp_
  subst τ_
  refine zr_iloadn X dX6_setEnds_10 rfl ?_
  refine zr_iloadn X dX6_setEnds_11 rfl ?_
  refine zr_xcallSV X K T (st := []) (fun sz => c_X6_requireDifferent l D cs ad hap hl (σ := σ) (v := s) (w := t) hs ht sz) ⟨tw_420, tw_421, tw_1, tw_422⟩ dc_X6_requireDifferent rfl rfl (Nat.le_of_ble_eq_true rfl) (by decide) dX6_setEnds_12 ⟨by decide, by decide⟩ (fun E h => Or.inr ⟨hS, hT, h⟩) ?_
  intro τ_ hp_
  obtain ⟨hτ_, hD⟩ := hp_
  subst τ_
  refine zr_aloadn X dX6_setEnds_15 rfl ?_
  refine zr_get X K (C := RX6) (T := TX6) (N := 5) (k := 1) mF_3_7 rfl rfl ti_6 (by decide) rfl tw_201 rfl dX6_setEnds_16 ?_
  refine zr_iloadn X dX6_setEnds_19 rfl ?_
  refine zr_iloadn X dX6_setEnds_20 rfl ?_
  refine zr_callNI X K (q := (RX3, TX3, 6)) (st := []) (c_X3_chooseEnds l D cs ad hap (b := 0) (by decide) (σ := σ) h.1 (s := s) (t := t) (Or.inr ⟨hS, hT, hD⟩)) ⟨tn_497, tw_499, tp_25, tw_3, tw_500⟩ dc_X3_chooseEnds mF_6_0 rfl rfl rfl rfl rfl (Nat.le_of_ble_eq_true rfl) (by decide) dX6_setEnds_21 ?_
  intro z τ hce
  have hk := ce_keep h hce
  refine zr_xzret X ⟨by decide, by decide⟩ hr dX6_setEnds_24 hk.2.2.1 ?_
  exact ⟨hk.1, hk.2.1, ⟨hS, hT, hD⟩, hk.2.2⟩

set_option maxHeartbeats 4000000 in
set_option maxRecDepth 100000 in
theorem c_X6_smallestCut (l : Launch) (D : va_G) (cs : Nat → ClassId) (ad : Ix → Nat) (hap : Apart idsF ad) (hl : l.stackTraces = false) {σ : Mem} (h : fnOk σ) (sz : Nat) : CXI l D cs idsF ad yX6_smallestCut cX6_smallestCut 1 .int 7 8 48 sz [(.ref (ad (3, 7)))] σ (fun z τ => fnOk τ ∧ keepQ σ τ ∧ endsYes σ 0 ∧ smP σ z) ((fun E => E = ISE ∧ endsNo σ 0)) := by
  refine CXI.of RX6 hl hap idsF_nd (by decide) rfl (Nat.le_of_ble_eq_true rfl) ?_
  intro pg ev s0 mi av bl mt cd X K T hr
  have hN := h.net
  have hn := hN.1
  have hm := hN.2.1
  refine zr_aloadn X dX6_smallestCut_0 rfl ?_
  refine zr_xcallVV X K T (q := (RX6, TX6, 5)) (st := []) (fun sz => c_X6_requireEnds l D cs ad hap hl (σ := σ) hN h.ends sz) ⟨tw_516, tw_518, tp_26, tw_1, tw_519⟩ dc_X6_requireEnds mF_3_7 rfl rfl rfl rfl rfl (Nat.le_of_ble_eq_true rfl) (by decide) dX6_smallestCut_1 ⟨by decide, by decide⟩ (fun E h => h) ?_
  intro τ_ hp_
  obtain ⟨hτ_, hEy⟩ := hp_
  subst τ_
  refine zr_aloadn X dX6_smallestCut_4 rfl ?_
  refine zr_get X K (C := RX6) (T := TX6) (N := 5) (k := 1) mF_3_7 rfl rfl ti_6 (by decide) rfl tw_201 rfl dX6_smallestCut_5 ?_
  refine zr_callNI X K (q := (RX3, TX3, 6)) (st := []) (c_X3_smallestMask l D cs ad hap (b := 0) (by decide) (σ := σ) h.1 hEy (cut_0 h hEy)) ⟨tn_290, tw_292, tp_13, tw_3, tw_293⟩ dc_X3_smallestMask mF_6_0 rfl rfl rfl rfl rfl (Nat.le_of_ble_eq_true rfl) (by decide) dX6_smallestCut_8 ?_
  intro z τ hmk
  have hk := st_keep h hmk.1
  refine zr_xiret X ⟨by decide, by decide⟩ hr dX6_smallestCut_11 ?_
  exact ⟨hk.1, hk.2, hEy, sm_of hEy hmk.1 hmk.2⟩

set_option maxHeartbeats 4000000 in
set_option maxRecDepth 100000 in
theorem c_X6_greatestCut (l : Launch) (D : va_G) (cs : Nat → ClassId) (ad : Ix → Nat) (hap : Apart idsF ad) (hl : l.stackTraces = false) {σ : Mem} (h : fnOk σ) (sz : Nat) : CXI l D cs idsF ad yX6_greatestCut cX6_greatestCut 1 .int 7 8 48 sz [(.ref (ad (3, 7)))] σ (fun z τ => fnOk τ ∧ keepQ σ τ ∧ endsYes σ 0 ∧ gtP σ z) ((fun E => E = ISE ∧ endsNo σ 0)) := by
  refine CXI.of RX6 hl hap idsF_nd (by decide) rfl (Nat.le_of_ble_eq_true rfl) ?_
  intro pg ev s0 mi av bl mt cd X K T hr
  have hN := h.net
  have hn := hN.1
  have hm := hN.2.1
  refine zr_aloadn X dX6_greatestCut_0 rfl ?_
  refine zr_xcallVV X K T (q := (RX6, TX6, 5)) (st := []) (fun sz => c_X6_requireEnds l D cs ad hap hl (σ := σ) hN h.ends sz) ⟨tw_516, tw_518, tp_26, tw_1, tw_519⟩ dc_X6_requireEnds mF_3_7 rfl rfl rfl rfl rfl (Nat.le_of_ble_eq_true rfl) (by decide) dX6_greatestCut_1 ⟨by decide, by decide⟩ (fun E h => h) ?_
  intro τ_ hp_
  obtain ⟨hτ_, hEy⟩ := hp_
  subst τ_
  refine zr_aloadn X dX6_greatestCut_4 rfl ?_
  refine zr_get X K (C := RX6) (T := TX6) (N := 5) (k := 1) mF_3_7 rfl rfl ti_6 (by decide) rfl tw_201 rfl dX6_greatestCut_5 ?_
  refine zr_callNI X K (q := (RX3, TX3, 6)) (st := []) (c_X3_greatestMask l D cs ad hap (b := 0) (by decide) (σ := σ) h.1 hEy (cut_0 h hEy)) ⟨tn_306, tw_308, tp_16, tw_3, tw_309⟩ dc_X3_greatestMask mF_6_0 rfl rfl rfl rfl rfl (Nat.le_of_ble_eq_true rfl) (by decide) dX6_greatestCut_8 ?_
  intro z τ hmk
  have hk := st_keep h hmk.1
  refine zr_xiret X ⟨by decide, by decide⟩ hr dX6_greatestCut_11 ?_
  exact ⟨hk.1, hk.2, hEy, gt_of hEy hmk.1 hmk.2⟩

set_option maxHeartbeats 4000000 in
set_option maxRecDepth 100000 in
theorem c_X6_headroom (l : Launch) (D : va_G) (cs : Nat → ClassId) (ad : Ix → Nat) (hap : Apart idsF ad) (hl : l.stackTraces = false) {σ : Mem} (h : fnOk σ) {a : Int} (ha : rg a) (sz : Nat) : CXI l D cs idsF ad yX6_headroom cX6_headroom 2 .int 7 8 48 sz [(.ref (ad (3, 7))), (jI a)] σ (fun z τ => fnOk τ ∧ keepQ σ τ ∧ endsYes σ 0 ∧ (0 ≤ a ∧ a < σ (0, 1) 0) ∧ (((σ (0, 2) a = σ (6, 8) 0 ∧ σ (0, 3) a = σ (6, 9) 0) ∧ z = -1) ∨ (¬ (σ (0, 2) a = σ (6, 8) 0 ∧ σ (0, 3) a = σ (6, 9) 0) ∧ ∃ F F1, mnS σ (σ (6, 2)) (σ (6, 8) 0) (σ (6, 9) 0) F ∧ mnS σ (updC (σ (6, 2)) a 100000000) (σ (6, 8) 0) (σ (6, 9) 0) F1 ∧ z = F1 - F))) ((fun E => (E = ISE ∧ endsNo σ 0) ∨ (endsYes σ 0 ∧ E = IOB ∧ ¬ (0 ≤ a ∧ a < σ (0, 1) 0)))) := by
  refine CXI.of RX6 hl hap idsF_nd (by decide) rfl (Nat.le_of_ble_eq_true rfl) ?_
  intro pg ev s0 mi av bl mt cd X K T hr
  have hN := h.net
  have hn := hN.1
  have hm := hN.2.1
  refine zr_aloadn X dX6_headroom_0 rfl ?_
  refine zr_xcallVV X K T (q := (RX6, TX6, 5)) (st := []) (fun sz => c_X6_requireEnds l D cs ad hap hl (σ := σ) hN h.ends sz) ⟨tw_516, tw_518, tp_26, tw_1, tw_519⟩ dc_X6_requireEnds mF_3_7 rfl rfl rfl rfl rfl (Nat.le_of_ble_eq_true rfl) (by decide) dX6_headroom_1 ⟨by decide, by decide⟩ (fun E h => Or.inl h) ?_
  intro τ_ hp_
  obtain ⟨hτ_, hEy⟩ := hp_
  subst τ_
  refine zr_aloadn X dX6_headroom_4 rfl ?_
  refine zr_iloadn X dX6_headroom_5 rfl ?_
  refine zr_xcallVV X K T (q := (RX6, TX6, 5)) (st := []) (fun sz => c_X6_requireArc l D cs ad hap hl (σ := σ) hN (v := a) ha sz) ⟨tw_468, tw_470, tp_24, tw_1, tw_471⟩ dc_X6_requireArc mF_3_7 rfl rfl rfl rfl rfl (Nat.le_of_ble_eq_true rfl) (by decide) dX6_headroom_6 ⟨by decide, by decide⟩ (fun E h => Or.inr ⟨hEy, h⟩) ?_
  intro τ_ hp_
  obtain ⟨hτ_, hA⟩ := hp_
  subst τ_
  have hNa := hN.2.2 a hA.1 hA.2
  have hEe := ends_of hEy
  have hE1 := hEe.1
  have hE2 := hEe.2.1
  refine zr_aloadn X dX6_headroom_9 rfl ?_
  refine zr_get X K (C := RX6) (T := TX6) (N := 5) (k := 0) mF_3_7 rfl rfl ti_6 (by decide) rfl tw_200 rfl dX6_headroom_10 ?_
  refine zr_getN X K (C := RX4) (T := TX4) (N := 6) (k := 2) mF_0_0 rfl rfl ti_4 (by decide) rfl tn_49 rfl dX6_headroom_13 ?_
  refine zr_iloadn X dX6_headroom_16 rfl ?_
  refine zr_iald X K (n := 80) mF_0_2 rfl (by decide) (by omega) dX6_headroom_17 ?_
  refine zr_aloadn X dX6_headroom_18 rfl ?_
  refine zr_get X K (C := RX6) (T := TX6) (N := 5) (k := 1) mF_3_7 rfl rfl ti_6 (by decide) rfl tw_201 rfl dX6_headroom_19 ?_
  refine zr_getN X K (v := (jI (σ (6, 8) 0))) (C := RX3) (T := TX3) (N := 6) (k := 3) mF_6_0 rfl rfl ti_3 (by decide) rfl tn_139 rfl dX6_headroom_22 ?_
  refine zr_icmp_ne X 49 dX6_headroom_25 (by decide) ⟨by omega, by omega⟩ ⟨by omega, by omega⟩ (fun t_25 => ?_) (fun f_25 => ?_)
  · refine zr_aloadn X dX6_headroom_49 rfl ?_
    refine zr_get X K (C := RX6) (T := TX6) (N := 5) (k := 2) mF_3_7 rfl rfl ti_6 (by decide) rfl tw_202 rfl dX6_headroom_50 ?_
    refine zr_aloadn X dX6_headroom_53 rfl ?_
    refine zr_get X K (C := RX6) (T := TX6) (N := 5) (k := 1) mF_3_7 rfl rfl ti_6 (by decide) rfl tw_201 rfl dX6_headroom_54 ?_
    refine zr_callNV X K (q := (RX3, TX3, 6)) (st := []) (c_X3_copy l D cs ad hap (σ := σ) h.1) ⟨tn_528, tw_530, tp_27, tw_3, tw_531⟩ dc_X3_copy mF_7_0 rfl rfl rfl rfl rfl (Nat.le_of_ble_eq_true rfl) (by decide) dX6_headroom_57 ?_
    intro υ hcp
    have ht0 := tr_cp hcp
    refine zr_aloadn X dX6_headroom_60 rfl ?_
    refine zr_get X K (C := RX6) (T := TX6) (N := 5) (k := 2) mF_3_7 rfl rfl ti_6 (by decide) rfl tw_202 rfl dX6_headroom_61 ?_
    refine zr_iloadn X dX6_headroom_64 rfl ?_
    refine zr_ldc (n := 100000000) X dX6_headroom_65 tw_672 rfl ?_
    refine zr_callNV X K (q := (RX3, TX3, 6)) (st := []) (c_X3_changeCapacity l D cs ad hap (b := 1) (by decide) (σ := υ) ht0.1 (a := a) (c := 100000000) (by rw [ht0.2.1 0 1 (by decide)]; exact hA) ⟨by omega, by omega⟩) ⟨tn_453, tw_455, tp_22, tw_3, tw_456⟩ dc_X3_changeCapacity mF_7_0 rfl rfl rfl rfl rfl (Nat.le_of_ble_eq_true rfl) (by decide) dX6_headroom_67 ?_
    intro ω hcc
    have ht1 := tr_cc ht0 hcc
    have hEt := tr_ey ht1 (ends_of hEy).1 (ends_of hEy).2.1 (ends_of hEy).2.2
    have hct := tr_c8h ht1 h.2.1 (ends_of hEy).2.2 (by omega)
    refine zr_aloadn X dX6_headroom_70 rfl ?_
    refine zr_get X K (C := RX6) (T := TX6) (N := 5) (k := 2) mF_3_7 rfl rfl ti_6 (by decide) rfl tw_202 rfl dX6_headroom_71 ?_
    refine zr_callNI X K (q := (RX3, TX3, 6)) (st := []) (c_X3_greatestValue l D cs ad hap (b := 1) (by decide) (σ := ω) ht1.1 hEt hct) ⟨tn_234, tw_236, tp_1, tw_3, tw_237⟩ dc_X3_greatestValue mF_7_0 rfl rfl rfl rfl rfl (Nat.le_of_ble_eq_true rfl) (by decide) dX6_headroom_74 ?_
    intro z τ1 hgv
    have hk1 := tr_gv ht1 h hgv
    have hE1 : endsYes τ1 0 := by
      show (0 ≤ τ1 (6, 8) 0 ∧ τ1 (6, 8) 0 < τ1 (0, 0) 0) ∧ (0 ≤ τ1 (6, 9) 0 ∧ τ1 (6, 9) 0 < τ1 (0, 0) 0) ∧ τ1 (6, 8) 0 ≠ τ1 (6, 9) 0
      rw [hk1.2.1.2.2.1, hk1.2.1.2.2.2, hk1.2.1.1 0 0 (by decide)]
      exact hEe
    refine zr_aloadn X dX6_headroom_77 rfl ?_
    refine zr_get X K (C := RX6) (T := TX6) (N := 5) (k := 1) mF_3_7 rfl rfl ti_6 (by decide) rfl tw_201 rfl dX6_headroom_78 ?_
    refine zr_callNI X K (q := (RX3, TX3, 6)) (st := [(jI z)]) (c_X3_greatestValue l D cs ad hap (b := 0) (by decide) (σ := τ1) hk1.1.1 hE1 (cut_0 hk1.1 hE1)) ⟨tn_234, tw_236, tp_1, tw_3, tw_237⟩ dc_X3_greatestValue mF_6_0 rfl rfl rfl rfl rfl (Nat.le_of_ble_eq_true rfl) (by decide) dX6_headroom_81 ?_
    intro y τ hgv0
    refine zr_isub X dX6_headroom_84 ?_
    refine zr_xiret X ⟨by decide, by decide⟩ hr dX6_headroom_85 ?_
    have hk := st_keep hk1.1 hgv0.1
    have hF : mnS τ1 (τ1 (6, 2)) (τ1 (6, 8) 0) (τ1 (6, 9) 0) y := isMn_of hgv0.2.2
    have hF2 := hk1.2.1.mn hF
    rw [hk1.2.1.2.1, hk1.2.1.2.2.1, hk1.2.1.2.2.2] at hF2
    exact ⟨hk.1, hk1.2.1.tr hk.2, hEy, hA, Or.inr ⟨by omega, y, z, hF2, hk1.2.2, rfl⟩⟩
  · refine zr_aloadn X dX6_headroom_28 rfl ?_
    refine zr_get X K (C := RX6) (T := TX6) (N := 5) (k := 0) mF_3_7 rfl rfl ti_6 (by decide) rfl tw_200 rfl dX6_headroom_29 ?_
    refine zr_getN X K (C := RX4) (T := TX4) (N := 6) (k := 3) mF_0_0 rfl rfl ti_4 (by decide) rfl tn_54 rfl dX6_headroom_32 ?_
    refine zr_iloadn X dX6_headroom_35 rfl ?_
    refine zr_iald X K (n := 80) mF_0_3 rfl (by decide) (by omega) dX6_headroom_36 ?_
    refine zr_aloadn X dX6_headroom_37 rfl ?_
    refine zr_get X K (C := RX6) (T := TX6) (N := 5) (k := 1) mF_3_7 rfl rfl ti_6 (by decide) rfl tw_201 rfl dX6_headroom_38 ?_
    refine zr_getN X K (v := (jI (σ (6, 9) 0))) (C := RX3) (T := TX3) (N := 6) (k := 4) mF_6_0 rfl rfl ti_3 (by decide) rfl tn_143 rfl dX6_headroom_41 ?_
    refine zr_icmp_ne X 49 dX6_headroom_44 (by decide) ⟨by omega, by omega⟩ ⟨by omega, by omega⟩ (fun t_44 => ?_) (fun f_44 => ?_)
    · refine zr_aloadn X dX6_headroom_49 rfl ?_
      refine zr_get X K (C := RX6) (T := TX6) (N := 5) (k := 2) mF_3_7 rfl rfl ti_6 (by decide) rfl tw_202 rfl dX6_headroom_50 ?_
      refine zr_aloadn X dX6_headroom_53 rfl ?_
      refine zr_get X K (C := RX6) (T := TX6) (N := 5) (k := 1) mF_3_7 rfl rfl ti_6 (by decide) rfl tw_201 rfl dX6_headroom_54 ?_
      refine zr_callNV X K (q := (RX3, TX3, 6)) (st := []) (c_X3_copy l D cs ad hap (σ := σ) h.1) ⟨tn_528, tw_530, tp_27, tw_3, tw_531⟩ dc_X3_copy mF_7_0 rfl rfl rfl rfl rfl (Nat.le_of_ble_eq_true rfl) (by decide) dX6_headroom_57 ?_
      intro υ hcp
      have ht0 := tr_cp hcp
      refine zr_aloadn X dX6_headroom_60 rfl ?_
      refine zr_get X K (C := RX6) (T := TX6) (N := 5) (k := 2) mF_3_7 rfl rfl ti_6 (by decide) rfl tw_202 rfl dX6_headroom_61 ?_
      refine zr_iloadn X dX6_headroom_64 rfl ?_
      refine zr_ldc (n := 100000000) X dX6_headroom_65 tw_672 rfl ?_
      refine zr_callNV X K (q := (RX3, TX3, 6)) (st := []) (c_X3_changeCapacity l D cs ad hap (b := 1) (by decide) (σ := υ) ht0.1 (a := a) (c := 100000000) (by rw [ht0.2.1 0 1 (by decide)]; exact hA) ⟨by omega, by omega⟩) ⟨tn_453, tw_455, tp_22, tw_3, tw_456⟩ dc_X3_changeCapacity mF_7_0 rfl rfl rfl rfl rfl (Nat.le_of_ble_eq_true rfl) (by decide) dX6_headroom_67 ?_
      intro ω hcc
      have ht1 := tr_cc ht0 hcc
      have hEt := tr_ey ht1 (ends_of hEy).1 (ends_of hEy).2.1 (ends_of hEy).2.2
      have hct := tr_c8h ht1 h.2.1 (ends_of hEy).2.2 (by omega)
      refine zr_aloadn X dX6_headroom_70 rfl ?_
      refine zr_get X K (C := RX6) (T := TX6) (N := 5) (k := 2) mF_3_7 rfl rfl ti_6 (by decide) rfl tw_202 rfl dX6_headroom_71 ?_
      refine zr_callNI X K (q := (RX3, TX3, 6)) (st := []) (c_X3_greatestValue l D cs ad hap (b := 1) (by decide) (σ := ω) ht1.1 hEt hct) ⟨tn_234, tw_236, tp_1, tw_3, tw_237⟩ dc_X3_greatestValue mF_7_0 rfl rfl rfl rfl rfl (Nat.le_of_ble_eq_true rfl) (by decide) dX6_headroom_74 ?_
      intro z τ1 hgv
      have hk1 := tr_gv ht1 h hgv
      have hE1 : endsYes τ1 0 := by
        show (0 ≤ τ1 (6, 8) 0 ∧ τ1 (6, 8) 0 < τ1 (0, 0) 0) ∧ (0 ≤ τ1 (6, 9) 0 ∧ τ1 (6, 9) 0 < τ1 (0, 0) 0) ∧ τ1 (6, 8) 0 ≠ τ1 (6, 9) 0
        rw [hk1.2.1.2.2.1, hk1.2.1.2.2.2, hk1.2.1.1 0 0 (by decide)]
        exact hEe
      refine zr_aloadn X dX6_headroom_77 rfl ?_
      refine zr_get X K (C := RX6) (T := TX6) (N := 5) (k := 1) mF_3_7 rfl rfl ti_6 (by decide) rfl tw_201 rfl dX6_headroom_78 ?_
      refine zr_callNI X K (q := (RX3, TX3, 6)) (st := [(jI z)]) (c_X3_greatestValue l D cs ad hap (b := 0) (by decide) (σ := τ1) hk1.1.1 hE1 (cut_0 hk1.1 hE1)) ⟨tn_234, tw_236, tp_1, tw_3, tw_237⟩ dc_X3_greatestValue mF_6_0 rfl rfl rfl rfl rfl (Nat.le_of_ble_eq_true rfl) (by decide) dX6_headroom_81 ?_
      intro y τ hgv0
      refine zr_isub X dX6_headroom_84 ?_
      refine zr_xiret X ⟨by decide, by decide⟩ hr dX6_headroom_85 ?_
      have hk := st_keep hk1.1 hgv0.1
      have hF : mnS τ1 (τ1 (6, 2)) (τ1 (6, 8) 0) (τ1 (6, 9) 0) y := isMn_of hgv0.2.2
      have hF2 := hk1.2.1.mn hF
      rw [hk1.2.1.2.1, hk1.2.1.2.2.1, hk1.2.1.2.2.2] at hF2
      exact ⟨hk.1, hk1.2.1.tr hk.2, hEy, hA, Or.inr ⟨by omega, y, z, hF2, hk1.2.2, rfl⟩⟩
    · refine zr_iconst X dX6_headroom_47 ?_
      refine zr_xiret X ⟨by decide, by decide⟩ hr dX6_headroom_48 ?_
      exact ⟨h, keepQ.rf, hEy, hA, Or.inl ⟨⟨by omega, by omega⟩, rfl⟩⟩

set_option maxHeartbeats 4000000 in
set_option maxRecDepth 100000 in
theorem c_X6_isBottleneck (l : Launch) (D : va_G) (cs : Nat → ClassId) (ad : Ix → Nat) (hap : Apart idsF ad) (hl : l.stackTraces = false) {σ : Mem} (h : fnOk σ) {a : Int} (ha : rg a) (sz : Nat) : CXI l D cs idsF ad yX6_isBottleneck cX6_isBottleneck 3 .boolean 7 8 48 sz [(.ref (ad (3, 7))), (jI a)] σ (fun z τ => fnOk τ ∧ keepQ σ τ ∧ endsYes σ 0 ∧ (0 ≤ a ∧ a < σ (0, 1) 0) ∧ (z = 0 ∨ z = 1) ∧ (z = 1 ↔ botS σ a)) ((fun E => (E = ISE ∧ endsNo σ 0) ∨ (endsYes σ 0 ∧ E = IOB ∧ ¬ (0 ≤ a ∧ a < σ (0, 1) 0)))) := by
  refine CXI.of RX6 hl hap idsF_nd (by decide) rfl (Nat.le_of_ble_eq_true rfl) ?_
  intro pg ev s0 mi av bl mt cd X K T hr
  have hN := h.net
  have hn := hN.1
  have hm := hN.2.1
  refine zr_aloadn X dX6_isBottleneck_0 rfl ?_
  refine zr_xcallVV X K T (q := (RX6, TX6, 5)) (st := []) (fun sz => c_X6_requireEnds l D cs ad hap hl (σ := σ) hN h.ends sz) ⟨tw_516, tw_518, tp_26, tw_1, tw_519⟩ dc_X6_requireEnds mF_3_7 rfl rfl rfl rfl rfl (Nat.le_of_ble_eq_true rfl) (by decide) dX6_isBottleneck_1 ⟨by decide, by decide⟩ (fun E h => Or.inl h) ?_
  intro τ_ hp_
  obtain ⟨hτ_, hEy⟩ := hp_
  subst τ_
  refine zr_aloadn X dX6_isBottleneck_4 rfl ?_
  refine zr_iloadn X dX6_isBottleneck_5 rfl ?_
  refine zr_xcallVV X K T (q := (RX6, TX6, 5)) (st := []) (fun sz => c_X6_requireArc l D cs ad hap hl (σ := σ) hN (v := a) ha sz) ⟨tw_468, tw_470, tp_24, tw_1, tw_471⟩ dc_X6_requireArc mF_3_7 rfl rfl rfl rfl rfl (Nat.le_of_ble_eq_true rfl) (by decide) dX6_isBottleneck_6 ⟨by decide, by decide⟩ (fun E h => Or.inr ⟨hEy, h⟩) ?_
  intro τ_ hp_
  obtain ⟨hτ_, hA⟩ := hp_
  subst τ_
  refine zr_aloadn X dX6_isBottleneck_9 rfl ?_
  refine zr_get X K (C := RX6) (T := TX6) (N := 5) (k := 1) mF_3_7 rfl rfl ti_6 (by decide) rfl tw_201 rfl dX6_isBottleneck_10 ?_
  refine zr_callNI X K (q := (RX3, TX3, 6)) (st := []) (c_X3_smallestMask l D cs ad hap (b := 0) (by decide) (σ := σ) h.1 hEy (cut_0 h hEy)) ⟨tn_290, tw_292, tp_13, tw_3, tw_293⟩ dc_X3_smallestMask mF_6_0 rfl rfl rfl rfl rfl (Nat.le_of_ble_eq_true rfl) (by decide) dX6_isBottleneck_13 ?_
  intro z τ hmk
  have hk := st_keep h hmk.1
  have e2 : τ (0, 2) = σ (0, 2) := hk.2.1 0 2 (by decide)
  have e3 : τ (0, 3) = σ (0, 3) := hk.2.1 0 3 (by decide)
  have e0 : τ (0, 0) = σ (0, 0) := hk.2.1 0 0 (by decide)
  have e1 : τ (0, 1) = σ (0, 1) := hk.2.1 0 1 (by decide)
  have e4 := hk.2.2.1
  have e9 := hk.2.2.2.2
  have hNa := hN.2.2 a hA.1 hA.2
  have hEe := ends_of hEy
  have f1 := congrFun e1 0
  have f0 := congrFun e0 0
  have f2 := congrFun e2 a
  have f3 := congrFun e3 a
  have f9 := congrFun e9 0
  have f4 := congrFun e4 a
  refine zr_aloadn X dX6_isBottleneck_16 rfl ?_
  refine zr_get X K (C := RX6) (T := TX6) (N := 5) (k := 1) mF_3_7 rfl rfl ti_6 (by decide) rfl tw_201 rfl dX6_isBottleneck_17 ?_
  refine zr_getN X K (v := (.ref (ad (6, 1)))) (C := RX3) (T := TX3) (N := 6) (k := 1) mF_6_0 rfl rfl ti_3 (by decide) rfl tn_133 rfl dX6_isBottleneck_20 ?_
  refine zr_aloadn X dX6_isBottleneck_23 rfl ?_
  refine zr_get X K (C := RX6) (T := TX6) (N := 5) (k := 0) mF_3_7 rfl rfl ti_6 (by decide) rfl tw_200 rfl dX6_isBottleneck_24 ?_
  refine zr_getN X K (C := RX4) (T := TX4) (N := 6) (k := 2) mF_0_0 rfl rfl ti_4 (by decide) rfl tn_49 rfl dX6_isBottleneck_27 ?_
  refine zr_iloadn X dX6_isBottleneck_30 rfl ?_
  refine zr_iald X K (n := 80) mF_0_2 rfl (by decide) (by omega) dX6_isBottleneck_31 ?_
  refine zr_callNI X K (q := (RX1, TX1, 3)) (st := [(jI z)]) (c_X1_reachableFrom l D cs ad hap (b := 0) (by decide) (σ := τ) hmk.1.1.1.1 hmk.1.1.1.2.2 (x := τ (0, 2) a) (by rw [f2, f0]; exact hNa.1)) ⟨tn_657, tw_296, tp_14, tw_4, tw_297⟩ dc_X1_reachableFrom mF_6_1 rfl rfl rfl rfl rfl (Nat.le_of_ble_eq_true rfl) (by decide) dX6_isBottleneck_32 ?_
  intro q τ_ hp_
  obtain ⟨hτ_, hq⟩ := hp_
  subst τ_
  rw [f2] at hq
  refine zr_ior X dX6_isBottleneck_35 (zb_or hmk.2.1.1 hq.1.1) ?_
  have hbo := bot_of hEy hmk.1 hA hN hmk.2 hq
  refine zr_istoren X dX6_isBottleneck_36 (by decide) rfl ?_
  refine zr_aloadn X dX6_isBottleneck_37 rfl ?_
  refine zr_get X K (C := RX6) (T := TX6) (N := 5) (k := 1) mF_3_7 rfl rfl ti_6 (by decide) rfl tw_201 rfl dX6_isBottleneck_38 ?_
  refine zr_getN X K (v := (.ref (ad (6, 1)))) (C := RX3) (T := TX3) (N := 6) (k := 1) mF_6_0 rfl rfl ti_3 (by decide) rfl tn_133 rfl dX6_isBottleneck_41 ?_
  refine zr_getN X K (v := (.ref (ad (6, 2)))) (C := RX1) (T := TX1) (N := 3) (k := 1) mF_6_1 rfl rfl ti_1 (by decide) rfl tn_88 rfl dX6_isBottleneck_44 ?_
  refine zr_iloadn X dX6_isBottleneck_47 rfl ?_
  refine zr_iald X K (n := 80) mF_6_2 rfl (by decide) (by omega) dX6_isBottleneck_48 ?_
  refine zr_if_eq X 86 dX6_isBottleneck_49 (by decide) (by have := h.2.1 a hA.1 (by omega); rw [f4]; exact ⟨by omega, by omega⟩) (fun t_49 => ?_) (fun f_49 => ?_)
  · have hz : ¬ botS σ a := fun g => g.1 (by omega)
    refine zr_iconst X dX6_isBottleneck_86 ?_
    refine zr_xzret X ⟨by decide, by decide⟩ hr dX6_isBottleneck_87 (by omega) ?_
    exact ⟨hk.1, hk.2, hEy, hA, Or.inl rfl, fun q => absurd q (by decide), fun q => absurd q hz⟩
  · have hcap : σ (6, 2) a ≠ 0 := by omega
    refine zr_iloadn X dX6_isBottleneck_52 rfl ?_
    refine zr_aloadn X dX6_isBottleneck_53 rfl ?_
    refine zr_get X K (C := RX6) (T := TX6) (N := 5) (k := 0) mF_3_7 rfl rfl ti_6 (by decide) rfl tw_200 rfl dX6_isBottleneck_54 ?_
    refine zr_getN X K (C := RX4) (T := TX4) (N := 6) (k := 3) mF_0_0 rfl rfl ti_4 (by decide) rfl tn_54 rfl dX6_isBottleneck_57 ?_
    refine zr_iloadn X dX6_isBottleneck_60 rfl ?_
    refine zr_iald X K (n := 80) mF_0_3 rfl (by decide) (by omega) dX6_isBottleneck_61 ?_
    refine zr_callSI X K (st := []) (c_X6_contains l D cs ad hap (m := oI z q) (v := τ (0, 3) a) ⟨(oI_lt hmk.2.1.2 hq.1.2).1, by have := (oI_lt hmk.2.1.2 hq.1.2).2; omega⟩ (by rw [f3]; omega)) ⟨tw_605, tw_303, tw_1, tw_304⟩ dc_X6_contains rfl rfl (Nat.le_of_ble_eq_true rfl) (by decide) dX6_isBottleneck_62 ?_
    intro z_ τ_ hp_
    obtain ⟨hτ_, hz_⟩ := hp_
    subst τ_
    subst z_
    refine zr_if_ne X 86 dX6_isBottleneck_65 (by decide) ite01 (fun t_65 => ?_) (fun f_65 => ?_)
    · have hz : ¬ botS σ a := fun g => (hbo.mpr g.2).1 (by rw [← f3]; exact ite1 t_65)
      refine zr_iconst X dX6_isBottleneck_86 ?_
      refine zr_xzret X ⟨by decide, by decide⟩ hr dX6_isBottleneck_87 (by omega) ?_
      exact ⟨hk.1, hk.2, hEy, hA, Or.inl rfl, fun q => absurd q (by decide), fun q => absurd q hz⟩
    · refine zr_iloadn X dX6_isBottleneck_68 rfl ?_
      refine zr_aloadn X dX6_isBottleneck_69 rfl ?_
      refine zr_get X K (C := RX6) (T := TX6) (N := 5) (k := 1) mF_3_7 rfl rfl ti_6 (by decide) rfl tw_201 rfl dX6_isBottleneck_70 ?_
      refine zr_getN X K (v := (jI (τ (6, 9) 0))) (C := RX3) (T := TX3) (N := 6) (k := 4) mF_6_0 rfl rfl ti_3 (by decide) rfl tn_143 rfl dX6_isBottleneck_73 ?_
      refine zr_callSI X K (st := []) (c_X6_contains l D cs ad hap (m := oI z q) (v := τ (6, 9) 0) ⟨(oI_lt hmk.2.1.2 hq.1.2).1, by have := (oI_lt hmk.2.1.2 hq.1.2).2; omega⟩ (by rw [f9]; omega)) ⟨tw_605, tw_303, tw_1, tw_304⟩ dc_X6_contains rfl rfl (Nat.le_of_ble_eq_true rfl) (by decide) dX6_isBottleneck_76 ?_
      intro z_ τ_ hp_
      obtain ⟨hτ_, hz_⟩ := hp_
      subst τ_
      subst z_
      refine zr_if_ne X 86 dX6_isBottleneck_79 (by decide) ite01 (fun t_79 => ?_) (fun f_79 => ?_)
      · have hz : ¬ botS σ a := fun g => (hbo.mpr g.2).2 (by rw [← f9]; exact ite1 t_79)
        refine zr_iconst X dX6_isBottleneck_86 ?_
        refine zr_xzret X ⟨by decide, by decide⟩ hr dX6_isBottleneck_87 (by omega) ?_
        exact ⟨hk.1, hk.2, hEy, hA, Or.inl rfl, fun q => absurd q (by decide), fun q => absurd q hz⟩
      · have hz : botS σ a := ⟨hcap, hbo.mp ⟨by rw [← f3]; exact ite0 f_65, by rw [← f9]; exact ite0 f_79⟩⟩
        refine zr_iconst X dX6_isBottleneck_82 ?_
        refine zr_goto X 87 dX6_isBottleneck_83 (by decide) ?_
        refine zr_xzret X ⟨by decide, by decide⟩ hr dX6_isBottleneck_87 (by omega) ?_
        exact ⟨hk.1, hk.2, hEy, hA, Or.inr rfl, fun _ => hz, fun _ => rfl⟩

set_option maxHeartbeats 4000000 in
set_option maxRecDepth 100000 in
theorem c_X6_isLimiting (l : Launch) (D : va_G) (cs : Nat → ClassId) (ad : Ix → Nat) (hap : Apart idsF ad) (hl : l.stackTraces = false) {σ : Mem} (h : fnOk σ) {a : Int} (ha : rg a) (sz : Nat) : CXI l D cs idsF ad yX6_isLimiting cX6_isLimiting 2 .boolean 7 8 48 sz [(.ref (ad (3, 7))), (jI a)] σ (fun z τ => fnOk τ ∧ keepQ σ τ ∧ endsYes σ 0 ∧ (0 ≤ a ∧ a < σ (0, 1) 0) ∧ (z = 0 ∨ z = 1) ∧ (z = 1 ↔ limS σ a)) ((fun E => (E = ISE ∧ endsNo σ 0) ∨ (endsYes σ 0 ∧ E = IOB ∧ ¬ (0 ≤ a ∧ a < σ (0, 1) 0)))) := by
  refine CXI.of RX6 hl hap idsF_nd (by decide) rfl (Nat.le_of_ble_eq_true rfl) ?_
  intro pg ev s0 mi av bl mt cd X K T hr
  have hN := h.net
  have hn := hN.1
  have hm := hN.2.1
  refine zr_aloadn X dX6_isLimiting_0 rfl ?_
  refine zr_xcallVV X K T (q := (RX6, TX6, 5)) (st := []) (fun sz => c_X6_requireEnds l D cs ad hap hl (σ := σ) hN h.ends sz) ⟨tw_516, tw_518, tp_26, tw_1, tw_519⟩ dc_X6_requireEnds mF_3_7 rfl rfl rfl rfl rfl (Nat.le_of_ble_eq_true rfl) (by decide) dX6_isLimiting_1 ⟨by decide, by decide⟩ (fun E h => Or.inl h) ?_
  intro τ_ hp_
  obtain ⟨hτ_, hEy⟩ := hp_
  subst τ_
  refine zr_aloadn X dX6_isLimiting_4 rfl ?_
  refine zr_iloadn X dX6_isLimiting_5 rfl ?_
  refine zr_xcallVV X K T (q := (RX6, TX6, 5)) (st := []) (fun sz => c_X6_requireArc l D cs ad hap hl (σ := σ) hN (v := a) ha sz) ⟨tw_468, tw_470, tp_24, tw_1, tw_471⟩ dc_X6_requireArc mF_3_7 rfl rfl rfl rfl rfl (Nat.le_of_ble_eq_true rfl) (by decide) dX6_isLimiting_6 ⟨by decide, by decide⟩ (fun E h => Or.inr ⟨hEy, h⟩) ?_
  intro τ_ hp_
  obtain ⟨hτ_, hA⟩ := hp_
  subst τ_
  refine zr_aloadn X dX6_isLimiting_9 rfl ?_
  refine zr_get X K (C := RX6) (T := TX6) (N := 5) (k := 1) mF_3_7 rfl rfl ti_6 (by decide) rfl tw_201 rfl dX6_isLimiting_10 ?_
  refine zr_callNI X K (q := (RX3, TX3, 6)) (st := []) (c_X3_smallestMask l D cs ad hap (b := 0) (by decide) (σ := σ) h.1 hEy (cut_0 h hEy)) ⟨tn_290, tw_292, tp_13, tw_3, tw_293⟩ dc_X3_smallestMask mF_6_0 rfl rfl rfl rfl rfl (Nat.le_of_ble_eq_true rfl) (by decide) dX6_isLimiting_13 ?_
  intro z τ hmk
  have hk := st_keep h hmk.1
  have e2 : τ (0, 2) = σ (0, 2) := hk.2.1 0 2 (by decide)
  have e3 : τ (0, 3) = σ (0, 3) := hk.2.1 0 3 (by decide)
  have e0 : τ (0, 0) = σ (0, 0) := hk.2.1 0 0 (by decide)
  have e1 : τ (0, 1) = σ (0, 1) := hk.2.1 0 1 (by decide)
  have e4 := hk.2.2.1
  have e9 := hk.2.2.2.2
  have hNa := hN.2.2 a hA.1 hA.2
  have hEe := ends_of hEy
  have f1 := congrFun e1 0
  have f0 := congrFun e0 0
  have f2 := congrFun e2 a
  have f3 := congrFun e3 a
  have f9 := congrFun e9 0
  have f4 := congrFun e4 a
  refine zr_aloadn X dX6_isLimiting_16 rfl ?_
  refine zr_get X K (C := RX6) (T := TX6) (N := 5) (k := 0) mF_3_7 rfl rfl ti_6 (by decide) rfl tw_200 rfl dX6_isLimiting_17 ?_
  refine zr_getN X K (C := RX4) (T := TX4) (N := 6) (k := 2) mF_0_0 rfl rfl ti_4 (by decide) rfl tn_49 rfl dX6_isLimiting_20 ?_
  refine zr_iloadn X dX6_isLimiting_23 rfl ?_
  refine zr_iald X K (n := 80) mF_0_2 rfl (by decide) (by omega) dX6_isLimiting_24 ?_
  refine zr_callSI X K (st := []) (c_X6_contains l D cs ad hap (m := z) (v := τ (0, 2) a) ⟨hmk.2.1.1, by have := hmk.2.1.2; omega⟩ (by rw [f2]; omega)) ⟨tw_605, tw_303, tw_1, tw_304⟩ dc_X6_contains rfl rfl (Nat.le_of_ble_eq_true rfl) (by decide) dX6_isLimiting_25 ?_
  intro z_ τ_ hp_
  obtain ⟨hτ_, hz_⟩ := hp_
  subst τ_
  subst z_
  refine zr_if_eq X 67 dX6_isLimiting_28 (by decide) ite01 (fun t_28 => ?_) (fun f_28 => ?_)
  · have hz : ¬ limS σ a := fun g => absurd t_28 (by rw [if_pos (by rw [f2]; exact ((sm_of hEy hmk.1 hmk.2).2 _ hNa.1.1).mpr fun X hX => (g X hX).1)]; decide)
    refine zr_iconst X dX6_isLimiting_67 ?_
    refine zr_xzret X ⟨by decide, by decide⟩ hr dX6_isLimiting_68 (by omega) ?_
    exact ⟨hk.1, hk.2, hEy, hA, Or.inl rfl, fun q => absurd q (by decide), fun q => absurd q hz⟩
  · refine zr_aloadn X dX6_isLimiting_31 rfl ?_
    refine zr_get X K (C := RX6) (T := TX6) (N := 5) (k := 1) mF_3_7 rfl rfl ti_6 (by decide) rfl tw_201 rfl dX6_isLimiting_32 ?_
    refine zr_getN X K (v := (.ref (ad (6, 1)))) (C := RX3) (T := TX3) (N := 6) (k := 1) mF_6_0 rfl rfl ti_3 (by decide) rfl tn_133 rfl dX6_isLimiting_35 ?_
    refine zr_aloadn X dX6_isLimiting_38 rfl ?_
    refine zr_get X K (C := RX6) (T := TX6) (N := 5) (k := 0) mF_3_7 rfl rfl ti_6 (by decide) rfl tw_200 rfl dX6_isLimiting_39 ?_
    refine zr_getN X K (C := RX4) (T := TX4) (N := 6) (k := 3) mF_0_0 rfl rfl ti_4 (by decide) rfl tn_54 rfl dX6_isLimiting_42 ?_
    refine zr_iloadn X dX6_isLimiting_45 rfl ?_
    refine zr_iald X K (n := 80) mF_0_3 rfl (by decide) (by omega) dX6_isLimiting_46 ?_
    refine zr_callNI X K (q := (RX1, TX1, 3)) (st := []) (c_X1_reachableFrom l D cs ad hap (b := 0) (by decide) (σ := τ) hmk.1.1.1.1 hmk.1.1.1.2.2 (x := τ (0, 3) a) (by rw [f3, f0]; exact hNa.2.1)) ⟨tn_657, tw_296, tp_14, tw_4, tw_297⟩ dc_X1_reachableFrom mF_6_1 rfl rfl rfl rfl rfl (Nat.le_of_ble_eq_true rfl) (by decide) dX6_isLimiting_47 ?_
    intro q τ_ hp_
    obtain ⟨hτ_, hq⟩ := hp_
    subst τ_
    rw [f3] at hq
    have hbo := lim_of hEy hmk.1 hA hN hmk.2 hq
    refine zr_aloadn X dX6_isLimiting_50 rfl ?_
    refine zr_get X K (C := RX6) (T := TX6) (N := 5) (k := 1) mF_3_7 rfl rfl ti_6 (by decide) rfl tw_201 rfl dX6_isLimiting_51 ?_
    refine zr_getN X K (v := (jI (τ (6, 9) 0))) (C := RX3) (T := TX3) (N := 6) (k := 4) mF_6_0 rfl rfl ti_3 (by decide) rfl tn_143 rfl dX6_isLimiting_54 ?_
    refine zr_callSI X K (st := []) (c_X6_contains l D cs ad hap (m := q) (v := τ (6, 9) 0) ⟨hq.1.1, by have := hq.1.2; omega⟩ (by rw [f9]; omega)) ⟨tw_605, tw_303, tw_1, tw_304⟩ dc_X6_contains rfl rfl (Nat.le_of_ble_eq_true rfl) (by decide) dX6_isLimiting_57 ?_
    intro z_ τ_ hp_
    obtain ⟨hτ_, hz_⟩ := hp_
    subst τ_
    subst z_
    refine zr_if_eq X 67 dX6_isLimiting_60 (by decide) ite01 (fun t_60 => ?_) (fun f_60 => ?_)
    · have hz : ¬ limS σ a := fun g => absurd (by rw [f9]; exact (hbo.mpr g).2) (ite0 t_60)
      refine zr_iconst X dX6_isLimiting_67 ?_
      refine zr_xzret X ⟨by decide, by decide⟩ hr dX6_isLimiting_68 (by omega) ?_
      exact ⟨hk.1, hk.2, hEy, hA, Or.inl rfl, fun q => absurd q (by decide), fun q => absurd q hz⟩
    · have hz : limS σ a := hbo.mp ⟨by rw [← f2]; exact ite1 f_28, by rw [← f9]; exact ite1 f_60⟩
      refine zr_iconst X dX6_isLimiting_63 ?_
      refine zr_goto X 68 dX6_isLimiting_64 (by decide) ?_
      refine zr_xzret X ⟨by decide, by decide⟩ hr dX6_isLimiting_68 (by omega) ?_
      exact ⟨hk.1, hk.2, hEy, hA, Or.inr rfl, fun _ => hz, fun _ => rfl⟩

set_option maxHeartbeats 4000000 in
set_option maxRecDepth 100000 in
theorem c_X6_cut (l : Launch) (D : va_G) (cs : Nat → ClassId) (ad : Ix → Nat) (hap : Apart idsF ad) (hl : l.stackTraces = false) {σ : Mem} (h : fnOk σ) {i : Int} (hi : rg i) (sz : Nat) : CXI l D cs idsF ad yX6_cut cX6_cut 2 .int 7 8 48 sz [(.ref (ad (3, 7))), (jI i)] σ (fun z τ => τ = σ ∧ (0 ≤ i ∧ i < σ (3, 4) 0) ∧ z = σ (3, 5) i) ((fun E => E = IOB ∧ ¬ (0 ≤ i ∧ i < σ (3, 4) 0))) := by
  refine CXI.of RX6 hl hap idsF_nd (by decide) rfl (Nat.le_of_ble_eq_true rfl) ?_
  intro pg ev s0 mi av bl mt cd X K T hr
  have hN := h.net
  have hn := hN.1
  have hm := hN.2.1
  have hcu := h.2.2.2
  unfold cuOk at hcu
  have hi1 := hi.1
  have hi2 := hi.2
  refine zr_iloadn X dX6_cut_0 rfl ?_
  refine zr_if_lt X 15 dX6_cut_1 (by decide) ⟨by omega, by omega⟩ (fun t_1 => ?_) (fun f_1 => ?_)
  · exact zr_throw (E := IOB) (tx := "no cut is kept at this index") X K T st_164 tw_404 tw_13 xat_IOB xgd_IOB (by decide +kernel) dX6_cut_15 dX6_cut_18 dX6_cut_19 dX6_cut_21 dX6_cut_24 ⟨Nat.le_of_ble_eq_true rfl, Nat.le_of_ble_eq_true rfl, Nat.le_of_ble_eq_true rfl, Nat.le_of_ble_eq_true rfl⟩ ⟨by decide, by decide⟩ ⟨rfl, by omega⟩
  · refine zr_iloadn X dX6_cut_4 rfl ?_
    refine zr_aloadn X dX6_cut_5 rfl ?_
    refine zr_get X K (C := RX6) (T := TX6) (N := 5) (k := 4) mF_3_7 rfl rfl ti_6 (by decide) rfl tw_204 rfl dX6_cut_6 ?_
    refine zr_getN X K (C := RX0) (T := TX0) (N := 3) (k := 0) mF_3_4 rfl rfl ti_0 (by decide) rfl tn_189 rfl dX6_cut_9 ?_
    refine zr_icmp_lt X 25 dX6_cut_12 (by decide) ⟨by omega, by omega⟩ ⟨by omega, by omega⟩ (fun t_12 => ?_) (fun f_12 => ?_)
    · refine zr_aloadn X dX6_cut_25 rfl ?_
      refine zr_get X K (C := RX6) (T := TX6) (N := 5) (k := 4) mF_3_7 rfl rfl ti_6 (by decide) rfl tw_204 rfl dX6_cut_26 ?_
      refine zr_getN X K (C := RX0) (T := TX0) (N := 3) (k := 1) mF_3_4 rfl rfl ti_0 (by decide) rfl tn_191 rfl dX6_cut_29 ?_
      refine zr_iloadn X dX6_cut_32 rfl ?_
      refine zr_iald X K (n := 300) mF_3_5 rfl (by decide) (by omega) dX6_cut_33 ?_
      refine zr_xiret X ⟨by decide, by decide⟩ hr dX6_cut_34 ?_
      exact ⟨rfl, ⟨by omega, by omega⟩, rfl⟩
    · exact zr_throw (E := IOB) (tx := "no cut is kept at this index") X K T st_164 tw_404 tw_13 xat_IOB xgd_IOB (by decide +kernel) dX6_cut_15 dX6_cut_18 dX6_cut_19 dX6_cut_21 dX6_cut_24 ⟨Nat.le_of_ble_eq_true rfl, Nat.le_of_ble_eq_true rfl, Nat.le_of_ble_eq_true rfl, Nat.le_of_ble_eq_true rfl⟩ ⟨by decide, by decide⟩ ⟨rfl, by omega⟩

set_option maxHeartbeats 4000000 in
set_option maxRecDepth 100000 in
theorem c_X4_allNodes (l : Launch) (D : va_G) (cs : Nat → ClassId) (ad : Ix → Nat) (hap : Apart idsF ad) {σ : Mem} (hN : NetOk σ) : CI l D cs idsF ad yX4_allNodes cX4_allNodes 1 .int 0 [(.ref (ad (0, 0)))] σ (fun z τ => τ = σ ∧ z = pI (σ (0, 0) 0) - 1) := by
  refine CI.of RX4 hap idsF_nd (by decide) rfl (Nat.le_of_ble_eq_true rfl) ?_
  intro pg ev s0 mi av bl mt cd X K hr
  have hn := hN.1
  refine zr_iconst X dX4_allNodes_0 ?_
  refine zr_aloadn X dX4_allNodes_1 rfl ?_
  refine zr_get X K (C := RX4) (T := TX4) (N := 6) (k := 0) mF_0_0 rfl rfl ti_4 (by decide) rfl tw_37 rfl dX4_allNodes_2 ?_
  refine zr_ishl X dX4_allNodes_5 (zb_shl (by omega) (by omega)) ?_
  refine zr_iconst X dX4_allNodes_6 ?_
  refine zr_isub X dX4_allNodes_7 ?_
  refine zr_iret X hr dX4_allNodes_8 ?_
  exact ⟨rfl, rfl⟩

set_option maxHeartbeats 4000000 in
set_option maxRecDepth 100000 in
theorem c_X6_isCut (l : Launch) (D : va_G) (cs : Nat → ClassId) (ad : Ix → Nat) (hap : Apart idsF ad) {σ : Mem} (h : fnOk σ) (hE : endsYes σ 0) {m : Int} (hM : rg m) : CI l D cs idsF ad yX6_isCut cX6_isCut 2 .boolean 1 [(.ref (ad (3, 7))), (jI m)] σ (fun z τ => τ = σ ∧ (z = 0 ∨ z = 1) ∧ (z = 1 ↔ cutS σ m)) := by
  refine CI.of RX6 hap idsF_nd (by decide) rfl (Nat.le_of_ble_eq_true rfl) ?_
  intro pg ev s0 mi av bl mt cd X K hr
  have hN := h.net
  have hn := hN.1
  have hm := hN.2.1
  have hEe := ends_of hE
  have hp := pI_le hn
  refine zr_iloadn X dX6_isCut_0 rfl ?_
  refine zr_aloadn X dX6_isCut_1 rfl ?_
  refine zr_get X K (C := RX6) (T := TX6) (N := 5) (k := 0) mF_3_7 rfl rfl ti_6 (by decide) rfl tw_200 rfl dX6_isCut_2 ?_
  refine zr_callNI X K (q := (RX4, TX4, 6)) (st := [(jI m)]) (c_X4_allNodes l D cs ad hap (σ := σ) hN) ⟨tn_601, tw_603, tp_33, tw_2, tw_604⟩ dc_X4_allNodes mF_0_0 rfl rfl rfl rfl rfl (Nat.le_of_ble_eq_true rfl) (by decide) dX6_isCut_5 ?_
  intro z_ τ_ hp_
  obtain ⟨hτ_, hz_⟩ := hp_
  subst τ_
  subst z_
  refine zr_iconst X dX6_isCut_8 ?_
  refine zr_ixor X dX6_isCut_9 (iI_self _).symm ?_
  refine zr_iand X dX6_isCut_10 (iI_self _).symm ?_
  refine zr_if_ne X 46 dX6_isCut_11 (by decide) (iI_rg _) (fun t_11 => ?_) (fun f_11 => ?_)
  · have hz : ¬ cutS σ m := fun g => t_11 (by rw [iI_self]; exact (andN_0 hM hn).mpr g.1)
    refine zr_iconst X dX6_isCut_46 ?_
    refine zr_zret X hr dX6_isCut_47 (by omega) ?_
    exact ⟨rfl, Or.inl rfl, fun q => absurd q (by decide), fun q => absurd q hz⟩
  · have hz0 : 0 ≤ m ∧ m < pI (σ (0, 0) 0) := (andN_0 hM hn).mp (by rw [iI_self] at f_11; exact f_11)
    refine zr_iloadn X dX6_isCut_14 rfl ?_
    refine zr_aloadn X dX6_isCut_15 rfl ?_
    refine zr_get X K (C := RX6) (T := TX6) (N := 5) (k := 1) mF_3_7 rfl rfl ti_6 (by decide) rfl tw_201 rfl dX6_isCut_16 ?_
    refine zr_getN X K (v := (jI (σ (6, 8) 0))) (C := RX3) (T := TX3) (N := 6) (k := 3) mF_6_0 rfl rfl ti_3 (by decide) rfl tn_139 rfl dX6_isCut_19 ?_
    refine zr_callSI X K (st := []) (c_X6_contains l D cs ad hap (m := m) (v := σ (6, 8) 0) ⟨by omega, by omega⟩ ⟨by omega, by omega⟩) ⟨tw_605, tw_303, tw_1, tw_304⟩ dc_X6_contains rfl rfl (Nat.le_of_ble_eq_true rfl) (by decide) dX6_isCut_22 ?_
    intro z_ τ_ hp_
    obtain ⟨hτ_, hz_⟩ := hp_
    subst τ_
    subst z_
    refine zr_if_eq X 46 dX6_isCut_25 (by decide) ite01 (fun t_25 => ?_) (fun f_25 => ?_)
    · have hz : ¬ cutS σ m := fun g => ite0 t_25 g.2.1
      refine zr_iconst X dX6_isCut_46 ?_
      refine zr_zret X hr dX6_isCut_47 (by omega) ?_
      exact ⟨rfl, Or.inl rfl, fun q => absurd q (by decide), fun q => absurd q hz⟩
    · refine zr_iloadn X dX6_isCut_28 rfl ?_
      refine zr_aloadn X dX6_isCut_29 rfl ?_
      refine zr_get X K (C := RX6) (T := TX6) (N := 5) (k := 1) mF_3_7 rfl rfl ti_6 (by decide) rfl tw_201 rfl dX6_isCut_30 ?_
      refine zr_getN X K (v := (jI (σ (6, 9) 0))) (C := RX3) (T := TX3) (N := 6) (k := 4) mF_6_0 rfl rfl ti_3 (by decide) rfl tn_143 rfl dX6_isCut_33 ?_
      refine zr_callSI X K (st := []) (c_X6_contains l D cs ad hap (m := m) (v := σ (6, 9) 0) ⟨by omega, by omega⟩ ⟨by omega, by omega⟩) ⟨tw_605, tw_303, tw_1, tw_304⟩ dc_X6_contains rfl rfl (Nat.le_of_ble_eq_true rfl) (by decide) dX6_isCut_36 ?_
      intro z_ τ_ hp_
      obtain ⟨hτ_, hz_⟩ := hp_
      subst τ_
      subst z_
      refine zr_if_ne X 46 dX6_isCut_39 (by decide) ite01 (fun t_39 => ?_) (fun f_39 => ?_)
      · have hz : ¬ cutS σ m := fun g => g.2.2 (ite1 t_39)
        refine zr_iconst X dX6_isCut_46 ?_
        refine zr_zret X hr dX6_isCut_47 (by omega) ?_
        exact ⟨rfl, Or.inl rfl, fun q => absurd q (by decide), fun q => absurd q hz⟩
      · have hz : cutS σ m := ⟨hz0, ite1 f_25, ite0 f_39⟩
        refine zr_iconst X dX6_isCut_42 ?_
        refine zr_goto X 47 dX6_isCut_43 (by decide) ?_
        refine zr_zret X hr dX6_isCut_47 (by omega) ?_
        exact ⟨rfl, Or.inr rfl, fun _ => hz, fun _ => rfl⟩

set_option maxHeartbeats 4000000 in
set_option maxRecDepth 100000 in
theorem c_X6_cutCapacity (l : Launch) (D : va_G) (cs : Nat → ClassId) (ad : Ix → Nat) (hap : Apart idsF ad) (hl : l.stackTraces = false) {σ : Mem} (h : fnOk σ) {m : Int} (hM : rg m) (sz : Nat) : CXI l D cs idsF ad yX6_cutCapacity cX6_cutCapacity 2 .int 7 8 48 sz [(.ref (ad (3, 7))), (jI m)] σ (fun z τ => τ = σ ∧ endsYes σ 0 ∧ cutS σ m ∧ z = gcp (σ (0, 1) 0).toNat (σ (0, 2)) (σ (0, 3)) (σ (6, 2)) (bt m)) ((fun E => (E = ISE ∧ endsNo σ 0) ∨ (endsYes σ 0 ∧ E = IAE ∧ ¬ cutS σ m))) := by
  refine CXI.of RX6 hl hap idsF_nd (by decide) rfl (Nat.le_of_ble_eq_true rfl) ?_
  intro pg ev s0 mi av bl mt cd X K T hr
  have hN := h.net
  have hn := hN.1
  have hm := hN.2.1
  have hp := pI_le hn
  refine zr_aloadn X dX6_cutCapacity_0 rfl ?_
  refine zr_xcallVV X K T (q := (RX6, TX6, 5)) (st := []) (fun sz => c_X6_requireEnds l D cs ad hap hl (σ := σ) hN h.ends sz) ⟨tw_516, tw_518, tp_26, tw_1, tw_519⟩ dc_X6_requireEnds mF_3_7 rfl rfl rfl rfl rfl (Nat.le_of_ble_eq_true rfl) (by decide) dX6_cutCapacity_1 ⟨by decide, by decide⟩ (fun E h => Or.inl h) ?_
  intro τ_ hp_
  obtain ⟨hτ_, hEy⟩ := hp_
  subst τ_
  refine zr_aloadn X dX6_cutCapacity_4 rfl ?_
  refine zr_iloadn X dX6_cutCapacity_5 rfl ?_
  refine zr_callVI X K (q := (RX6, TX6, 5)) (st := []) (c_X6_isCut l D cs ad hap (σ := σ) h hEy hM) ⟨tw_597, tw_599, tp_32, tw_1, tw_600⟩ dc_X6_isCut mF_3_7 rfl rfl rfl rfl rfl (Nat.le_of_ble_eq_true rfl) (by decide) dX6_cutCapacity_6 ?_
  intro z τ_ hp_
  obtain ⟨hτ_, hz01, hz⟩ := hp_
  subst τ_
  refine zr_if_ne X 22 dX6_cutCapacity_9 (by decide) (by rcases hz01 with q | q <;> exact ⟨by omega, by omega⟩) (fun t_9 => ?_) (fun f_9 => ?_)
  · have hcu : cutS σ m := hz.mp (by omega)
    refine zr_aloadn X dX6_cutCapacity_22 rfl ?_
    refine zr_get X K (C := RX6) (T := TX6) (N := 5) (k := 1) mF_3_7 rfl rfl ti_6 (by decide) rfl tw_201 rfl dX6_cutCapacity_23 ?_
    refine zr_getN X K (v := (.ref (ad (6, 1)))) (C := RX3) (T := TX3) (N := 6) (k := 1) mF_6_0 rfl rfl ti_3 (by decide) rfl tn_133 rfl dX6_cutCapacity_26 ?_
    refine zr_iloadn X dX6_cutCapacity_29 rfl ?_
    refine zr_callNI X K (q := (RX1, TX1, 3)) (st := []) (c_X1_capacityOut l D cs ad hap (b := 0) (by decide) (σ := σ) hN (q := m) ⟨hcu.1.1, by have := hcu.1.2; omega⟩) ⟨tn_560, tw_562, tp_29, tw_4, tw_563⟩ dc_X1_capacityOut mF_6_1 rfl rfl rfl rfl rfl (Nat.le_of_ble_eq_true rfl) (by decide) dX6_cutCapacity_30 ?_
    intro z_ τ_ hp_
    obtain ⟨hτ_, hz_⟩ := hp_
    subst τ_
    subst z_
    refine zr_xiret X ⟨by decide, by decide⟩ hr dX6_cutCapacity_33 ?_
    exact ⟨rfl, hEy, hcu, coF_gcp⟩
  · exact zr_throw (E := IAE) (tx := "this is not the mask of a cut") X K T st_147 tw_423 tw_14 xat_IAE xgd_IAE (by decide +kernel) dX6_cutCapacity_12 dX6_cutCapacity_15 dX6_cutCapacity_16 dX6_cutCapacity_18 dX6_cutCapacity_21 ⟨Nat.le_of_ble_eq_true rfl, Nat.le_of_ble_eq_true rfl, Nat.le_of_ble_eq_true rfl, Nat.le_of_ble_eq_true rfl⟩ ⟨by decide, by decide⟩ (Or.inr ⟨hEy, rfl, fun g => absurd (hz.mpr g) (by omega)⟩)
