/-! THE CLASS: scale, utilization -/
def cm3 (i j : Int) : Int := if i < j then -1 else if i = j then 0 else 1
theorem cm3_rg {i j : Int} : rg (cm3 i j) := by
  unfold cm3
  split
  · exact ⟨by decide, by decide⟩
  · split <;> exact ⟨by decide, by decide⟩
theorem cm3_gt {i j : Int} : 0 < cm3 i j ↔ j < i := by
  unfold cm3
  split
  · omega
  · split <;> omega
theorem cm3_lt {i j : Int} : cm3 i j < 0 ↔ i < j := by
  unfold cm3
  split
  · omega
  · split <;> omega
theorem cm3_eq {i j : Int} : cm3 i j = 0 ↔ i = j := by
  unfold cm3
  split
  · omega
  · split <;> omega
theorem d8_cm {i j : Int} {a b : UInt64} {op : CmpOp} (ha : D8 i a) (hb : D8 j b) : Op.cmpValue (FP.dcmp a b) op = iI (cm3 i j) := d8_cmp ha hb
theorem d8_1000 : D8 8000 4652007308841189376 := by
  have : FP.Core.val64 4652007308841189376 = .fin false (1000 * 2 ^ 43) (-43) := by decide +kernel
  unfold D8
  rw [this]
  show FP.Core.signed false (1000 * 2 ^ 43 * 2 ^ ((-43 : Int) + 3).toNat) = 8000 * ((2 ^ (-((-43 : Int) + 3)).toNat : Nat) : Int)
  decide +kernel
/-- the nearest whole number, the even one of two -/
def rn8 (n : Int) : Int := if n % 8 < 4 then n / 8 else if 4 < n % 8 then n / 8 + 1 else n / 8 + n / 8 % 2
def scS (c k : Int) : Int := if rn8 (c * k) ≤ 1000000 then rn8 (c * k) else 1000000
theorem ck_rg {c k : Int} (hc : 0 ≤ c ∧ c ≤ 1000000) (hk : 0 ≤ k ∧ k ≤ 8000) : 0 ≤ c * k ∧ c * k ≤ 8000000000 := by
  refine ⟨Int.mul_nonneg hc.1 hk.1, ?_⟩
  calc c * k ≤ 1000000 * k := Int.mul_le_mul_of_nonneg_right hc.2 hk.1
    _ ≤ 8000000000 := by omega
theorem sc_rg {c k : Int} (hc : 0 ≤ c ∧ c ≤ 1000000) (hk : 0 ≤ k ∧ k ≤ 8000) : 0 ≤ scS c k ∧ scS c k ≤ 1000000 := by
  have := ck_rg hc hk
  have h0 : 0 ≤ rn8 (c * k) := by
    unfold rn8
    split
    · omega
    · split <;> omega
  unfold scS
  split <;> omega
def scC (σ : Mem) (v k i : Int) : Int → Int := fun j => if (0 ≤ j ∧ j < i) ∧ σ (0, 2) j = v then scS (σ (6, 2) j) k else σ (6, 2) j
def chF (σ : Mem) (v k a : Int) : Int := if σ (0, 2) a = v ∧ scS (σ (6, 2) a) k ≠ σ (6, 2) a then 1 else 0
def scI (σ υ : Mem) (v k i x : Int) : Prop := mfOk υ 0 ∧ (∀ g q : Nat, g < 6 → υ (g, q) = σ (g, q)) ∧ υ (6, 2) = scC σ v k i ∧ υ (6, 8) = σ (6, 8) ∧ υ (6, 9) = σ (6, 9) ∧ x = sm (chF σ v k) i.toNat
theorem sc_0 {σ : Mem} {v k : Int} (h : fnOk σ) : scI σ σ v k 0 0 := ⟨h.1, fun _ _ _ => rfl, funext fun j => (if_neg (fun q => by omega)).symm, rfl, rfl, rfl⟩
theorem sc_at {σ υ : Mem} {v k i x : Int} (h : scI σ υ v k i x) : υ (6, 2) i = σ (6, 2) i := by
  rw [h.2.2.1]
  exact if_neg (fun q => by omega)
theorem sc_no {σ υ : Mem} {v k i x : Int} (h : scI σ υ v k i x) (hi : 0 ≤ i) (q : ¬ σ (0, 2) i = v ∨ scS (σ (6, 2) i) k = σ (6, 2) i) : scI σ υ v k (i + 1) x := by
  obtain ⟨h1, h2, h3, h4, h5, h6⟩ := h
  refine ⟨h1, h2, ?_, h4, h5, ?_⟩
  · rw [h3]
    funext j
    unfold scC
    by_cases e : j = i
    · subst e
      rw [if_neg (fun g => by omega)]
      by_cases g : σ (0, 2) j = v
      · rw [if_pos ⟨⟨hi, by omega⟩, g⟩]
        exact (q.resolve_left (fun z => z g)).symm
      · rw [if_neg (fun z => g z.2)]
    · by_cases g : (0 ≤ j ∧ j < i) ∧ σ (0, 2) j = v
      · rw [if_pos g, if_pos ⟨⟨g.1.1, by omega⟩, g.2⟩]
      · rw [if_neg g, if_neg (fun z => g ⟨⟨z.1.1, by omega⟩, z.2⟩)]
  · rw [sm_succ hi, ← h6]
    unfold chF
    rw [if_neg (fun g => q.elim (fun z => z g.1) g.2)]
    omega
theorem sc_yes {σ υ τ : Mem} {v k i x : Int} (h : scI σ υ v k i x) (hi : 0 ≤ i) (q1 : σ (0, 2) i = v) (q2 : scS (σ (6, 2) i) k ≠ σ (6, 2) i) (hc : ccP υ τ 0 i (scS (σ (6, 2) i) k)) : scI σ τ v k (i + 1) (x + 1) := by
  obtain ⟨-, h2, h3, h4, h5, h6⟩ := h
  obtain ⟨c1, c2, c3⟩ := hc
  refine ⟨c1, fun g q hg => (c2.1 g q (Or.inl (by omega))).trans (h2 g q hg), ?_, (c2.own 8).trans h4, (c2.own 9).trans h5, ?_⟩
  · funext j
    refine (c3 j).trans ?_
    unfold scC
    by_cases e : j = i
    · rw [if_pos e, e, if_pos ⟨⟨hi, by omega⟩, q1⟩]
    · rw [if_neg e, show υ (0 + 6, 2) = scC σ v k i from h3]
      unfold scC
      by_cases g : (0 ≤ j ∧ j < i) ∧ σ (0, 2) j = v
      · rw [if_pos g, if_pos ⟨⟨g.1.1, by omega⟩, g.2⟩]
      · rw [if_neg g, if_neg (fun z => g ⟨⟨z.1.1, by omega⟩, z.2⟩)]
  · rw [sm_succ hi, ← h6]
    unfold chF
    rw [if_pos ⟨q1, q2⟩]
theorem sc_end {σ υ : Mem} {v k x : Int} (hf : fnOk σ) (hk : 0 ≤ k ∧ k ≤ 8000) (h : scI σ υ v k (σ (0, 1) 0) x) : fnOk υ ∧ keepC σ υ (scC σ v k (σ (0, 1) 0)) := by
  obtain ⟨h1, h2, h3, h4, h5, h6⟩ := h
  have kc : keepC σ υ (scC σ v k (σ (0, 1) 0)) := ⟨h2, h3, h4, h5⟩
  refine ⟨kc.ok hf h1 fun a a0 a1 => ?_, kc⟩
  unfold scC
  split
  · exact sc_rg (hf.2.1 a a0 a1) hk
  · exact hf.2.1 a a0 a1
/-- what leaves the source at most -/
def outF (σ : Mem) : Int := sm (fun a => if σ (0, 2) a = σ (6, 8) 0 then σ (6, 2) a else 0) (σ (0, 1) 0).toNat
theorem out_of {σ : Mem} (hf : fnOk σ) (hE : endsYes σ 0) : sm (coF σ 0 (pI (σ (6, 8) 0))) (σ (0, 1) 0).toNat = outF σ := sm_cong fun a a0 a1 => by
  have hm := hf.net.2.1
  have hs := (ends_of hE).1.1
  have hn := hf.net.2.2 a a0 (by omega)
  show (if bt (pI (σ (6, 8) 0)) (σ (0, 2) a) && !bt (pI (σ (6, 8) 0)) (σ (0, 3) a) then σ (6, 2) a else 0) = _
  rw [bt_p hs hn.1.1, bt_p hs hn.2.1.1]
  by_cases q : σ (0, 2) a = σ (6, 8) 0
  · rw [if_pos q, decide_eq_true q.symm, decide_eq_false (fun e => hn.2.2 (q.trans e))]
    rfl
  · rw [if_neg q, decide_eq_false (fun e => q e.symm)]
    rfl
theorem out_rg {σ : Mem} (hf : fnOk σ) : 0 ≤ outF σ ∧ outF σ ≤ 80000000 := by
  have hm := hf.net.2.1
  refine ⟨sm_nn fun a a0 a1 => ?_, sm_80 (by omega) fun a a0 a1 => ?_⟩
  · have := hf.2.1 a a0 (by omega)
    show 0 ≤ (if σ (0, 2) a = σ (6, 8) 0 then σ (6, 2) a else 0)
    split <;> omega
  · have := hf.2.1 a a0 (by omega)
    show (if σ (0, 2) a = σ (6, 8) 0 then σ (6, 2) a else 0) ≤ 1000000
    split <;> omega
theorem div_n {i j : Int} {a b : UInt64} (ha : D1 i a) (hb : D1 j b) (hj : j ≠ 0) : vf_n64 (FP.ddiv a b) := by
  have h1 : FP.Core.val64 (FP.ddiv a b) ≠ .nan := by
    rw [show FP.Core.val64 (FP.ddiv a b) = _ from FP.Core.val64_ddiv a b]
    unfold D1 at ha hb
    cases ea : FP.Core.val64 a with
    | nan => rw [ea] at ha; exact ha.elim
    | inf => rw [ea] at ha; exact ha.elim
    | fin s c q =>
      cases eb : FP.Core.val64 b with
      | nan => rw [eb] at hb; exact hb.elim
      | inf => rw [eb] at hb; exact hb.elim
      | fin t d r =>
        rw [eb] at hb
        have hd : d ≠ 0 := fun e => hj ((FP.Core.whole_zero hb).mp e)
        show (if d = 0 then (if c = 0 then FP.Core.Datum.nan else .inf (s != t)) else FP.Core.roundRatio FP.Core.b64 (s != t) c d (q - r)) ≠ .nan
        rw [if_neg hd]
        exact FP.Core.roundRatio_ne_nan _ _ _ _ _
  have h1 := (FP.Core.ne_nan _).mp h1
  unfold vf_n64
  rw [UInt64.le_iff_toNat_le, UInt64.toNat_and]
  have : (0x7fffffffffffffff : UInt64).toNat = 2 ^ 63 - 1 := by decide
  rw [this, Nat.and_two_pow_sub_one_eq_mod]
  exact h1
def utS (σ : Mem) (y : UInt64) : Prop := (outF σ = 0 ∧ y = 0) ∨ (outF σ ≠ 0 ∧ ∃ F, mnS σ (σ (6, 2)) (σ (6, 8) 0) (σ (6, 9) 0) F ∧ y = FP.ddiv (FP.i2d (iI F)) (FP.i2d (iI (outF σ))))

theorem dc_X6_scaled : dcl yX6_scaled 2 := ⟨by decide, by decide, by decide +kernel⟩
theorem dc_X6_requireFraction : dcl yX6_requireFraction 1 := ⟨by decide, by decide, by decide +kernel⟩

set_option maxHeartbeats 4000000 in
set_option maxRecDepth 100000 in
theorem c_X6_scaled (l : Launch) (D : va_G) (cs : Nat → ClassId) (ad : Ix → Nat) (hap : Apart idsF ad) {σ : Mem} {c k : Int} {fr : UInt64} (hc : 0 ≤ c ∧ c ≤ 1000000) (hk : 0 ≤ k ∧ k ≤ 8000) (hf : D8 k fr) : CI l D cs idsF ad yX6_scaled cX6_scaled 9 .int 1 [(jI c), (.double (fr))] σ (fun z τ => τ = σ ∧ z = scS c k) := by
  refine CI.of RX6 hap idsF_nd (by decide) rfl (Nat.le_of_ble_eq_true rfl) ?_
  intro pg ev s0 mi av bl mt cd X K hr
  have hck := ck_rg hc hk
  obtain ⟨n, hn⟩ : ∃ n, n = c * k := ⟨_, rfl⟩
  obtain ⟨w, hw⟩ : ∃ w, w = n / 8 := ⟨_, rfl⟩
  obtain ⟨r, hr8⟩ : ∃ r, r = n % 8 := ⟨_, rfl⟩
  have hw0 : 0 ≤ w ∧ w ≤ 1000000000 := by omega
  have hr0 : 0 ≤ r ∧ r < 8 := by omega
  have hP : D8 n (FP.dmul (FP.i2d (iI (c))) (fr)) := by
    rw [hn]
    exact d8_mul (d1_i ⟨by omega, by omega⟩) hf (by omega)
  have hW : D8 (8 * w) (FP.i2d (iI (w))) := d8_of (d1_i ⟨by omega, by omega⟩)
  have hR : D8 r (FP.dsub (FP.dmul (FP.i2d (iI (c))) (fr)) (FP.i2d (iI (w)))) := by
    have := d8_sub hP hW (by omega)
    rwa [show n - 8 * w = r by omega] at this
  refine zr_iloadn X dX6_scaled_0 rfl ?_
  refine zr_i2d X dX6_scaled_1 ?_
  refine zr_dloadn X dX6_scaled_2 rfl ?_
  refine zr_dmul X dX6_scaled_3 (d8_n hP) ?_
  refine zr_dstoren X dX6_scaled_4 (by decide) rfl ?_
  refine zr_dloadn X dX6_scaled_5 rfl ?_
  refine zr_d2i X dX6_scaled_6 (by have := d8_int hP (by omega) (by omega); rw [← hw] at this; exact this) ?_
  refine zr_istore X dX6_scaled_7 (by decide) rfl ?_
  refine zr_dloadn X dX6_scaled_9 rfl ?_
  refine zr_iload X dX6_scaled_10 rfl ?_
  refine zr_i2d X dX6_scaled_12 ?_
  refine zr_dsub X dX6_scaled_13 (d8_n hR) ?_
  refine zr_dstore X dX6_scaled_14 (by decide) rfl ?_
  refine zr_dload X dX6_scaled_16 rfl ?_
  refine zr_ldc2d X dX6_scaled_18 tw_363 ?_
  refine zr_dcmp X dX6_scaled_21 (d8_cm hR d8_half) ?_
  refine zr_if_gt X 42 dX6_scaled_22 (by decide) cm3_rg (fun t_22 => ?_) (fun f_22 => ?_)
  · have h22 : 4 < r := cm3_gt.mp t_22
    refine zr_iconst X dX6_scaled_42 ?_
    refine zr_goto X 47 dX6_scaled_43 (by decide) ?_
    refine zr_istore X dX6_scaled_47 (by decide) rfl ?_
    refine zr_iload X dX6_scaled_49 rfl ?_
    refine zr_if_eq X 61 dX6_scaled_51 (by decide) ⟨by omega, by omega⟩ (fun t_51 => ?_) (fun f_51 => ?_)
    · exact absurd t_51 (by decide)
    · refine zr_iload X dX6_scaled_54 rfl ?_
      refine zr_iconst X dX6_scaled_56 ?_
      refine zr_iadd X dX6_scaled_57 ?_
      refine zr_goto X 63 dX6_scaled_58 (by decide) ?_
      refine zr_ldc (n := 1000000) X dX6_scaled_63 tw_274 rfl ?_
      refine zr_min X tw_364 tw_336 tw_15 tw_337 ⟨Nat.le_of_ble_eq_true rfl, Nat.le_of_ble_eq_true rfl, Nat.le_of_ble_eq_true rfl, Nat.le_of_ble_eq_true rfl⟩ ⟨by omega, by omega⟩ ⟨by omega, by omega⟩ dX6_scaled_65 (fun w_65 h_w_65 => ?_)
      refine zr_iret X hr dX6_scaled_68 ?_
      refine ⟨rfl, ?_⟩
      unfold scS rn8
      rw [← hn, ← hw, ← hr8]
      clear hP hW hR hf
      split <;> split <;> (try split) <;> omega
  · have h22 : ¬ 4 < r := fun g => absurd (cm3_gt.mpr g) (by omega)
    refine zr_dload X dX6_scaled_25 rfl ?_
    refine zr_ldc2d X dX6_scaled_27 tw_363 ?_
    refine zr_dcmp X dX6_scaled_30 (d8_cm hR d8_half) ?_
    refine zr_if_ne X 46 dX6_scaled_31 (by decide) cm3_rg (fun t_31 => ?_) (fun f_31 => ?_)
    · have h31 : ¬ r = 4 := fun g => t_31 (cm3_eq.mpr g)
      refine zr_iconst X dX6_scaled_46 ?_
      refine zr_istore X dX6_scaled_47 (by decide) rfl ?_
      refine zr_iload X dX6_scaled_49 rfl ?_
      refine zr_if_eq X 61 dX6_scaled_51 (by decide) ⟨by omega, by omega⟩ (fun t_51 => ?_) (fun f_51 => ?_)
      · refine zr_iload X dX6_scaled_61 rfl ?_
        refine zr_ldc (n := 1000000) X dX6_scaled_63 tw_274 rfl ?_
        refine zr_min X tw_364 tw_336 tw_15 tw_337 ⟨Nat.le_of_ble_eq_true rfl, Nat.le_of_ble_eq_true rfl, Nat.le_of_ble_eq_true rfl, Nat.le_of_ble_eq_true rfl⟩ ⟨by omega, by omega⟩ ⟨by omega, by omega⟩ dX6_scaled_65 (fun w_65 h_w_65 => ?_)
        refine zr_iret X hr dX6_scaled_68 ?_
        refine ⟨rfl, ?_⟩
        unfold scS rn8
        rw [← hn, ← hw, ← hr8]
        clear hP hW hR hf
        split <;> split <;> (try split) <;> omega
      · exact absurd f_51 (by decide)
    · have h31 : r = 4 := cm3_eq.mp (by omega)
      refine zr_iload X dX6_scaled_34 rfl ?_
      refine zr_iconst X dX6_scaled_36 ?_
      refine zr_iand X dX6_scaled_37 (zb_and1 hw0.1 (by omega)) ?_
      refine zr_iconst X dX6_scaled_38 ?_
      refine zr_icmp_ne X 46 dX6_scaled_39 (by decide) ⟨by omega, by omega⟩ ⟨by omega, by omega⟩ (fun t_39 => ?_) (fun f_39 => ?_)
      · refine zr_iconst X dX6_scaled_46 ?_
        refine zr_istore X dX6_scaled_47 (by decide) rfl ?_
        refine zr_iload X dX6_scaled_49 rfl ?_
        refine zr_if_eq X 61 dX6_scaled_51 (by decide) ⟨by omega, by omega⟩ (fun t_51 => ?_) (fun f_51 => ?_)
        · refine zr_iload X dX6_scaled_61 rfl ?_
          refine zr_ldc (n := 1000000) X dX6_scaled_63 tw_274 rfl ?_
          refine zr_min X tw_364 tw_336 tw_15 tw_337 ⟨Nat.le_of_ble_eq_true rfl, Nat.le_of_ble_eq_true rfl, Nat.le_of_ble_eq_true rfl, Nat.le_of_ble_eq_true rfl⟩ ⟨by omega, by omega⟩ ⟨by omega, by omega⟩ dX6_scaled_65 (fun w_65 h_w_65 => ?_)
          refine zr_iret X hr dX6_scaled_68 ?_
          refine ⟨rfl, ?_⟩
          unfold scS rn8
          rw [← hn, ← hw, ← hr8]
          clear hP hW hR hf
          split <;> split <;> (try split) <;> omega
        · exact absurd f_51 (by decide)
      · refine zr_iconst X dX6_scaled_42 ?_
        refine zr_goto X 47 dX6_scaled_43 (by decide) ?_
        refine zr_istore X dX6_scaled_47 (by decide) rfl ?_
        refine zr_iload X dX6_scaled_49 rfl ?_
        refine zr_if_eq X 61 dX6_scaled_51 (by decide) ⟨by omega, by omega⟩ (fun t_51 => ?_) (fun f_51 => ?_)
        · exact absurd t_51 (by decide)
        · refine zr_iload X dX6_scaled_54 rfl ?_
          refine zr_iconst X dX6_scaled_56 ?_
          refine zr_iadd X dX6_scaled_57 ?_
          refine zr_goto X 63 dX6_scaled_58 (by decide) ?_
          refine zr_ldc (n := 1000000) X dX6_scaled_63 tw_274 rfl ?_
          refine zr_min X tw_364 tw_336 tw_15 tw_337 ⟨Nat.le_of_ble_eq_true rfl, Nat.le_of_ble_eq_true rfl, Nat.le_of_ble_eq_true rfl, Nat.le_of_ble_eq_true rfl⟩ ⟨by omega, by omega⟩ ⟨by omega, by omega⟩ dX6_scaled_65 (fun w_65 h_w_65 => ?_)
          refine zr_iret X hr dX6_scaled_68 ?_
          refine ⟨rfl, ?_⟩
          unfold scS rn8
          rw [← hn, ← hw, ← hr8]
          clear hP hW hR hf
          split <;> split <;> (try split) <;> omega

set_option maxHeartbeats 4000000 in
set_option maxRecDepth 100000 in
theorem c_X6_requireFraction (l : Launch) (D : va_G) (cs : Nat → ClassId) (ad : Ix → Nat) (hap : Apart idsF ad) (hl : l.stackTraces = false) {σ : Mem} {k : Int} {fr : UInt64} (hf : D8 k fr) (sz : Nat) : CXV l D cs idsF ad yX6_requireFraction cX6_requireFraction 3 6 1 6 sz [(.double (fr))] σ (fun τ => τ = σ ∧ 0 ≤ k ∧ k ≤ 8000) ((fun E => E = IAE ∧ ¬ (0 ≤ k ∧ k ≤ 8000))) := by
  refine CXV.of RX6 hl hap idsF_nd (by decide) rfl (Nat.le_of_ble_eq_true rfl) ?_
  intro pg ev s0 mi av bl mt cd X K T hr
  refine zr_dloadn X dX6_requireFraction_0 rfl ?_
  refine zr_dconst0 X dX6_requireFraction_1 ?_
  refine zr_dcmp X dX6_requireFraction_2 (d8_cm hf d8_zero) ?_
  refine zr_if_lt X 18 dX6_requireFraction_3 (by decide) cm3_rg (fun t_3 => ?_) (fun f_3 => ?_)
  · have hx : ¬ (0 ≤ k ∧ k ≤ 8000) := fun g => by have := cm3_lt.mp t_3; omega
    refine zr_iconst X dX6_requireFraction_18 ?_
    refine zr_istoren X dX6_requireFraction_19 (by decide) rfl ?_
    refine zr_iloadn X dX6_requireFraction_20 rfl ?_
    refine zr_if_ne X 34 dX6_requireFraction_21 (by decide) ⟨by omega, by omega⟩ (fun t_21 => ?_) (fun f_21 => ?_)
    · exact absurd t_21 (by decide)
    · exact zr_throw (E := IAE) (tx := "the fraction is not from 0 to 1000") X K T st_216 tw_275 tw_13 xat_IAE xgd_IAE (by decide +kernel) dX6_requireFraction_24 dX6_requireFraction_27 dX6_requireFraction_28 dX6_requireFraction_30 dX6_requireFraction_33 ⟨Nat.le_of_ble_eq_true rfl, Nat.le_of_ble_eq_true rfl, Nat.le_of_ble_eq_true rfl, Nat.le_of_ble_eq_true rfl⟩ ⟨by decide, by decide⟩ ⟨rfl, hx⟩
  · refine zr_dloadn X dX6_requireFraction_6 rfl ?_
    refine zr_ldc2d X dX6_requireFraction_7 tw_358 ?_
    refine zr_dcmp X dX6_requireFraction_10 (d8_cm hf d8_1000) ?_
    refine zr_if_gt X 18 dX6_requireFraction_11 (by decide) cm3_rg (fun t_11 => ?_) (fun f_11 => ?_)
    · have hx : ¬ (0 ≤ k ∧ k ≤ 8000) := fun g => by have := cm3_gt.mp t_11; omega
      refine zr_iconst X dX6_requireFraction_18 ?_
      refine zr_istoren X dX6_requireFraction_19 (by decide) rfl ?_
      refine zr_iloadn X dX6_requireFraction_20 rfl ?_
      refine zr_if_ne X 34 dX6_requireFraction_21 (by decide) ⟨by omega, by omega⟩ (fun t_21 => ?_) (fun f_21 => ?_)
      · exact absurd t_21 (by decide)
      · exact zr_throw (E := IAE) (tx := "the fraction is not from 0 to 1000") X K T st_216 tw_275 tw_13 xat_IAE xgd_IAE (by decide +kernel) dX6_requireFraction_24 dX6_requireFraction_27 dX6_requireFraction_28 dX6_requireFraction_30 dX6_requireFraction_33 ⟨Nat.le_of_ble_eq_true rfl, Nat.le_of_ble_eq_true rfl, Nat.le_of_ble_eq_true rfl, Nat.le_of_ble_eq_true rfl⟩ ⟨by decide, by decide⟩ ⟨rfl, hx⟩
    · have hx : 0 ≤ k ∧ k ≤ 8000 := ⟨Int.not_lt.mp fun g => f_3 (cm3_lt.mpr g), Int.not_lt.mp fun g => absurd (cm3_gt.mpr g) (by omega)⟩
      refine zr_iconst X dX6_requireFraction_14 ?_
      refine zr_goto X 19 dX6_requireFraction_15 (by decide) ?_
      refine zr_istoren X dX6_requireFraction_19 (by decide) rfl ?_
      refine zr_iloadn X dX6_requireFraction_20 rfl ?_
      refine zr_if_ne X 34 dX6_requireFraction_21 (by decide) ⟨by omega, by omega⟩ (fun t_21 => ?_) (fun f_21 => ?_)
      · refine zr_xvret X ⟨by decide, by decide⟩ hr dX6_requireFraction_34 ?_
        exact ⟨rfl, hx⟩
      · exact absurd f_21 (by decide)

set_option maxHeartbeats 4000000 in
set_option maxRecDepth 100000 in
theorem c_X6_scale (l : Launch) (D : va_G) (cs : Nat → ClassId) (ad : Ix → Nat) (hap : Apart idsF ad) (hl : l.stackTraces = false) {σ : Mem} (h : fnOk σ) {v k : Int} {fr : UInt64} (hv : rg v) (hfr : D8 k fr) (sz : Nat) : CXI l D cs idsF ad yX6_scale cX6_scale 8 .int 7 8 48 sz [(.ref (ad (3, 7))), (jI v), (.double (fr))] σ (fun z τ => fnOk τ ∧ keepC σ τ (scC σ v k (σ (0, 1) 0)) ∧ (0 ≤ v ∧ v < σ (0, 0) 0) ∧ (0 ≤ k ∧ k ≤ 8000) ∧ z = sm (chF σ v k) (σ (0, 1) 0).toNat) ((fun E => (E = IOB ∧ ¬ (0 ≤ v ∧ v < σ (0, 0) 0)) ∨ ((0 ≤ v ∧ v < σ (0, 0) 0) ∧ E = IAE ∧ ¬ (0 ≤ k ∧ k ≤ 8000)))) := by
  refine CXI.of RX6 hl hap idsF_nd (by decide) rfl (Nat.le_of_ble_eq_true rfl) ?_
  intro pg ev s0 mi av bl mt cd X K T hr
  have hN := h.net
  have hn := hN.1
  have hm := hN.2.1
  refine zr_aloadn X dX6_scale_0 rfl ?_
  refine zr_iloadn X dX6_scale_1 rfl ?_
  refine zr_xcallVV X K T (q := (RX6, TX6, 5)) (st := []) (fun sz => c_X6_requireNode l D cs ad hap hl (σ := σ) hN (v := v) hv sz) ⟨tw_350, tw_352, tp_14, tw_1, tw_353⟩ dc_X6_requireNode mF_3_7 rfl rfl rfl rfl rfl (Nat.le_of_ble_eq_true rfl) (by decide) dX6_scale_2 ⟨by decide, by decide⟩ (fun E h => Or.inl h) ?_
  intro τ_ hp_
  obtain ⟨hτ_, hV⟩ := hp_
  subst τ_
  refine zr_dloadn X dX6_scale_5 rfl ?_
  refine zr_xcallSV X K T (st := []) (fun sz => c_X6_requireFraction l D cs ad hap hl (σ := σ) hfr sz) ⟨tw_355, tw_356, tw_1, tw_357⟩ dc_X6_requireFraction rfl rfl (Nat.le_of_ble_eq_true rfl) (by decide) dX6_scale_6 ⟨by decide, by decide⟩ (fun E h => Or.inr ⟨hV, h⟩) ?_
  intro τ_ hp_
  obtain ⟨hτ_, hK⟩ := hp_
  subst τ_
  refine zr_iconst X dX6_scale_9 ?_
  refine zr_istore X dX6_scale_10 (by decide) rfl ?_
  refine zr_iconst X dX6_scale_12 ?_
  refine zr_istore X dX6_scale_13 (by decide) rfl ?_
  have loop_15 : ∀ (n_15 : Nat) (x : Int) (i : Int) (υ : Mem), ((0 ≤ i ∧ i ≤ σ (0, 1) 0) ∧ scI σ υ v k i x) → (σ (0, 1) 0 - i).toNat < n_15 → Wx pg l ev (rmm 7 8 48) s0 mi av bl mt cd D cs idsF ad (RgN idsF ad sz) s0.heap 8 (vx_MQ bl (qXI D cs idsF ad sz ((fun z τ => fnOk τ ∧ keepC σ τ (scC σ v k (σ (0, 1) 0)) ∧ (0 ≤ v ∧ v < σ (0, 0) 0) ∧ (0 ≤ k ∧ k ≤ 8000) ∧ z = sm (chF σ v k) (σ (0, 1) 0).toNat))) (xI D cs idsF ad sz σ ((fun E => (E = IOB ∧ ¬ (0 ≤ v ∧ v < σ (0, 0) 0)) ∨ ((0 ≤ v ∧ v < σ (0, 0) 0) ∧ E = IAE ∧ ¬ (0 ≤ k ∧ k ≤ 8000))))) av s0 8 48 (RgN idsF ad sz)) 2 12 υ 15 [some (.ref (ad (3, 7))), some (jI v), some (.double (fr)), none, some (jI x), some (jI i), none, none] [] := by
    intro n_15
    induction n_15 with
    | zero => exact fun x i υ hinv hn => absurd hn (Nat.not_lt_zero _)
    | succ n_15 ih_15 =>
      intro x i υ hI_15 hn_15
      have hi0 := hI_15.1
      have e1 : υ (0, 1) 0 = σ (0, 1) 0 := congrFun (hI_15.2.2.1 0 1 (by decide)) 0
      have e2 : υ (0, 2) i = σ (0, 2) i := congrFun (hI_15.2.2.1 0 2 (by decide)) i
      have ec := sc_at hI_15.2
      refine zr_iload X dX6_scale_15 rfl ?_
      refine zr_aloadn X dX6_scale_17 rfl ?_
      refine zr_get X K (C := RX6) (T := TX6) (N := 5) (k := 0) mF_3_7 rfl rfl ti_6 (by decide) rfl tw_179 rfl dX6_scale_18 ?_
      refine zr_getN X K (C := RX4) (T := TX4) (N := 6) (k := 1) mF_0_0 rfl rfl ti_4 (by decide) rfl tn_39 rfl dX6_scale_21 ?_
      refine zr_icmp_ge X 91 dX6_scale_24 (by decide) ⟨by omega, by omega⟩ ⟨by omega, by omega⟩ (fun t_24 => ?_) (fun f_24 => ?_)
      · refine zr_iload X dX6_scale_91 rfl ?_
        refine zr_xiret X ⟨by decide, by decide⟩ hr dX6_scale_93 ?_
        have hi : i = σ (0, 1) 0 := by omega
        rw [hi] at hI_15
        have hk2 := sc_end h hK hI_15.2
        exact ⟨hk2.1, hk2.2, hV, hK, hI_15.2.2.2.2.2.2⟩
      · have hci := h.2.1 i hi0.1 (by omega)
        have hti := (hN.2.2 i hi0.1 (by omega)).1
        refine zr_aloadn X dX6_scale_27 rfl ?_
        refine zr_get X K (C := RX6) (T := TX6) (N := 5) (k := 1) mF_3_7 rfl rfl ti_6 (by decide) rfl tw_180 rfl dX6_scale_28 ?_
        refine zr_getN X K (v := (.ref (ad (6, 1)))) (C := RX3) (T := TX3) (N := 6) (k := 1) mF_6_0 rfl rfl ti_3 (by decide) rfl tn_124 rfl dX6_scale_31 ?_
        refine zr_getN X K (v := (.ref (ad (6, 2)))) (C := RX1) (T := TX1) (N := 3) (k := 1) mF_6_1 rfl rfl ti_1 (by decide) rfl tn_82 rfl dX6_scale_34 ?_
        refine zr_iload X dX6_scale_37 rfl ?_
        refine zr_iald X K (n := 80) mF_6_2 rfl (by decide) (by omega) dX6_scale_39 ?_
        refine zr_istore X dX6_scale_40 (by decide) rfl ?_
        refine zr_iload X dX6_scale_42 rfl ?_
        refine zr_dloadn X dX6_scale_44 rfl ?_
        refine zr_callSI X K (st := []) (c_X6_scaled l D cs ad hap (σ := υ) (c := υ (6, 2) i) (k := k) (by rw [ec]; exact hci) hK hfr) ⟨tw_360, tw_361, tw_1, tw_362⟩ dc_X6_scaled rfl rfl (Nat.le_of_ble_eq_true rfl) (by decide) dX6_scale_45 ?_
        intro z_ τ_ hp_
        obtain ⟨hτ_, hz_⟩ := hp_
        subst τ_
        subst z_
        rw [ec]
        have hsr := sc_rg hci hK
        refine zr_istore X dX6_scale_48 (by decide) rfl ?_
        refine zr_aloadn X dX6_scale_50 rfl ?_
        refine zr_get X K (C := RX6) (T := TX6) (N := 5) (k := 0) mF_3_7 rfl rfl ti_6 (by decide) rfl tw_179 rfl dX6_scale_51 ?_
        refine zr_getN X K (C := RX4) (T := TX4) (N := 6) (k := 2) mF_0_0 rfl rfl ti_4 (by decide) rfl tn_44 rfl dX6_scale_54 ?_
        refine zr_iload X dX6_scale_57 rfl ?_
        refine zr_iald X K (n := 80) mF_0_2 rfl (by decide) (by omega) dX6_scale_59 ?_
        refine zr_iloadn X dX6_scale_60 rfl ?_
        refine zr_icmp_ne X 85 dX6_scale_61 (by decide) ⟨by omega, by omega⟩ ⟨by omega, by omega⟩ (fun t_61 => ?_) (fun f_61 => ?_)
        · refine zr_iinc X dX6_scale_85 rfl (by decide) rfl ?_
          refine zr_goto X 15 dX6_scale_88 (by decide) ?_
          refine Wx.weak (lo' := [some (.ref (ad (3, 7))), some (jI v), some (.double (fr)), none, some (jI x), some (jI (i + 1)), none, none]) ⟨rfl, rfl, rfl, rfl, rfl, trivial⟩ ?_
          exact ih_15 _ _ _ ⟨⟨by omega, by omega⟩, sc_no hI_15.2 hi0.1 (by omega)⟩ (by omega)
        · refine zr_iload X dX6_scale_64 rfl ?_
          refine zr_iload X dX6_scale_66 rfl ?_
          refine zr_icmp_eq X 85 dX6_scale_68 (by decide) ⟨by omega, by omega⟩ ⟨by omega, by omega⟩ (fun t_68 => ?_) (fun f_68 => ?_)
          · refine zr_iinc X dX6_scale_85 rfl (by decide) rfl ?_
            refine zr_goto X 15 dX6_scale_88 (by decide) ?_
            refine Wx.weak (lo' := [some (.ref (ad (3, 7))), some (jI v), some (.double (fr)), none, some (jI x), some (jI (i + 1)), none, none]) ⟨rfl, rfl, rfl, rfl, rfl, trivial⟩ ?_
            exact ih_15 _ _ _ ⟨⟨by omega, by omega⟩, sc_no hI_15.2 hi0.1 (by omega)⟩ (by omega)
          · refine zr_aloadn X dX6_scale_71 rfl ?_
            refine zr_get X K (C := RX6) (T := TX6) (N := 5) (k := 1) mF_3_7 rfl rfl ti_6 (by decide) rfl tw_180 rfl dX6_scale_72 ?_
            refine zr_iload X dX6_scale_75 rfl ?_
            refine zr_iload X dX6_scale_77 rfl ?_
            refine zr_callNV X K (q := (RX3, TX3, 6)) (st := []) (c_X3_changeCapacity l D cs ad hap (b := 0) (by decide) (σ := υ) hI_15.2.1 (a := i) (c := scS (σ (6, 2) i) k) ⟨hi0.1, by omega⟩ ⟨hsr.1, by omega⟩) ⟨tn_291, tw_293, tp_2, tw_3, tw_294⟩ dc_X3_changeCapacity mF_6_0 rfl rfl rfl rfl rfl (Nat.le_of_ble_eq_true rfl) (by decide) dX6_scale_79 ?_
            intro ω hcc
            refine zr_iinc X dX6_scale_82 rfl (by decide) rfl ?_
            refine zr_iinc X dX6_scale_85 rfl (by decide) rfl ?_
            refine zr_goto X 15 dX6_scale_88 (by decide) ?_
            refine Wx.weak (lo' := [some (.ref (ad (3, 7))), some (jI v), some (.double (fr)), none, some (jI (x + 1)), some (jI (i + 1)), none, none]) ⟨rfl, rfl, rfl, rfl, rfl, trivial⟩ ?_
            exact ih_15 _ _ _ ⟨⟨by omega, by omega⟩, sc_yes hI_15.2 hi0.1 (by omega) (by omega) hcc⟩ (by omega)
  refine Wx.weak (lo' := [some (.ref (ad (3, 7))), some (jI v), some (.double (fr)), none, some (jI 0), some (jI 0), none, none]) ⟨rfl, rfl, rfl, rfl, rfl, trivial⟩ ?_
  exact loop_15 _ _ _ _ ⟨⟨by omega, by omega⟩, sc_0 h⟩ (Nat.lt_succ_self _)

