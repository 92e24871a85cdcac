/-! NUMBERS OF EIGHTHS -/
section FPM
def shD : FP.Core.Datum → FP.Core.Datum
  | .fin s c q => .fin s c (q + 3)
  | d => d
def W8 (i : Int) (d : FP.Core.Datum) : Prop := FP.Core.Whole i (shD d)
theorem inU_sh (c : Nat) (q e : Int) : FP.Core.inUnits c (q + 3) (e + 3) = FP.Core.inUnits c q e := by
  unfold FP.Core.inUnits
  rw [show q + 3 - (e + 3) = q - e by omega]
theorem min_sh (q r : Int) : min (q + 3) (r + 3) = min q r + 3 := by omega
theorem sum_sh (x y : FP.Core.Datum) : FP.Core.exactSum (shD x) (shD y) = shD (FP.Core.exactSum x y) := by
  cases x with
  | nan => cases y <;> rfl
  | inf s =>
    cases y with
    | nan => rfl
    | fin => rfl
    | inf t =>
      show (if s = t then FP.Core.Datum.inf s else .nan) = shD (if s = t then .inf s else .nan)
      split <;> rfl
  | fin s c q =>
    cases y with
    | nan => rfl
    | inf => rfl
    | fin t d r =>
      show FP.Core.Datum.fin (FP.Core.sumSign s t (FP.Core.sumUnits s c (q + 3) t d (r + 3) (min (q + 3) (r + 3)))) (FP.Core.sumUnits s c (q + 3) t d (r + 3) (min (q + 3) (r + 3))).natAbs (min (q + 3) (r + 3)) = FP.Core.Datum.fin (FP.Core.sumSign s t (FP.Core.sumUnits s c q t d r (min q r))) (FP.Core.sumUnits s c q t d r (min q r)).natAbs (min q r + 3)
      have e : FP.Core.sumUnits s c (q + 3) t d (r + 3) (min (q + 3) (r + 3)) = FP.Core.sumUnits s c q t d r (min q r) := by
        unfold FP.Core.sumUnits
        rw [min_sh, inU_sh, inU_sh]
      rw [e, min_sh]
theorem neg_sh (x : FP.Core.Datum) : FP.Core.negate (shD x) = shD (FP.Core.negate x) := by cases x <;> rfl
theorem order_sh (x y : FP.Core.Datum) : FP.Core.order (shD x) (shD y) = FP.Core.order x y := by
  cases x with
  | nan => cases y <;> rfl
  | inf s => cases y <;> rfl
  | fin s c q =>
    cases y with
    | nan => rfl
    | inf => rfl
    | fin t d r =>
      show some (compare (FP.Core.signed s (FP.Core.inUnits c (q + 3) (min (q + 3) (r + 3)))) (FP.Core.signed t (FP.Core.inUnits d (r + 3) (min (q + 3) (r + 3))))) = some (compare (FP.Core.signed s (FP.Core.inUnits c q (min q r))) (FP.Core.signed t (FP.Core.inUnits d r (min q r))))
      rw [min_sh, inU_sh, inU_sh]
theorem prod_sh (x y : FP.Core.Datum) : FP.Core.exactProduct x (shD y) = shD (FP.Core.exactProduct x y) := by
  cases x with
  | nan => cases y <;> rfl
  | inf s =>
    cases y with
    | nan => rfl
    | inf => rfl
    | fin t d r =>
      show (if d = 0 then FP.Core.Datum.nan else .inf (s != t)) = shD (if d = 0 then .nan else .inf (s != t))
      split <;> rfl
  | fin s c q =>
    cases y with
    | nan => rfl
    | inf t =>
      show (if c = 0 then FP.Core.Datum.nan else .inf (s != t)) = shD (if c = 0 then .nan else .inf (s != t))
      split <;> rfl
    | fin t d r =>
      show FP.Core.Datum.fin (s != t) (c * d) (q + (r + 3)) = FP.Core.Datum.fin (s != t) (c * d) (q + r + 3)
      rw [Int.add_assoc]
theorem w8_sum {i j : Int} {x y : FP.Core.Datum} (hx : W8 i x) (hy : W8 j y) : W8 (i + j) (FP.Core.exactSum x y) := by
  unfold W8
  rw [← sum_sh]
  exact FP.Core.whole_sum hx hy
theorem w8_neg {i : Int} {x : FP.Core.Datum} (hx : W8 i x) : W8 (-i) (FP.Core.negate x) := by
  unfold W8
  rw [← neg_sh]
  exact FP.Core.whole_negate hx
theorem w8_prod {i j : Int} {x y : FP.Core.Datum} (hx : FP.Core.Whole i x) (hy : W8 j y) : W8 (i * j) (FP.Core.exactProduct x y) := by
  unfold W8
  rw [← prod_sh]
  exact FP.Core.whole_product hx hy
theorem w8_order {i j : Int} {x y : FP.Core.Datum} (hx : W8 i x) (hy : W8 j y) : FP.Core.order x y = some (compare i j) := by
  rw [← order_sh]
  exact FP.Core.order_whole hx hy
theorem w8_nan {i : Int} {x : FP.Core.Datum} (hx : W8 i x) : x ≠ .nan := fun e => by
  rw [e] at hx
  exact hx
theorem w8_whole {i : Int} {x : FP.Core.Datum} (hx : FP.Core.Whole i x) : W8 (8 * i) x := by
  cases x with
  | nan => exact hx
  | inf => exact hx
  | fin s c q =>
    have hx : FP.Core.signed s (c * 2 ^ q.toNat) = i * ((2 ^ (-q).toNat : Nat) : Int) := hx
    show FP.Core.signed s (c * 2 ^ (q + 3).toNat) = 8 * i * ((2 ^ (-(q + 3)).toNat : Nat) : Int)
    have key : ∀ a b k : Nat, a + k = b + 3 → ((2 ^ a : Nat) : Int) * ((2 ^ k : Nat) : Int) = 8 * ((2 ^ b : Nat) : Int) := fun a b k h => by
      rw [← Int.natCast_mul, ← Nat.pow_add, h, Nat.pow_add]
      show ((2 ^ b * 8 : Nat) : Int) = _
      omega
    by_cases h0 : 0 ≤ q
    · have e1 := key (q + 3).toNat q.toNat 0 (by omega)
      rw [show (-q).toNat = 0 by omega] at hx
      rw [show (-(q + 3)).toNat = 0 by omega]
      have e2 : c * 2 ^ (q + 3).toNat = c * 2 ^ q.toNat * 8 := by rw [show (q + 3).toNat = q.toNat + 3 by omega, Nat.pow_add, Nat.mul_assoc]
      rw [e2, FP.Core.signed_mul, hx]
      show i * ((1 : Nat) : Int) * ((8 : Nat) : Int) = 8 * i * ((1 : Nat) : Int)
      omega
    · by_cases h3 : 0 ≤ q + 3
      · rw [show q.toNat = 0 by omega, Nat.pow_zero, Nat.mul_one] at hx
        rw [show (-(q + 3)).toNat = 0 by omega, FP.Core.signed_mul, hx]
        have e1 := key (-q).toNat 0 (q + 3).toNat (by omega)
        have e2 : ((2 ^ (q + 3).toNat : Nat) : Int) = ((2 ^ (q + 3).toNat : Nat) : Int) := rfl
        rw [Int.mul_assoc, e1]
        show i * (8 * ((1 : Nat) : Int)) = 8 * i * ((1 : Nat) : Int)
        omega
      · rw [show q.toNat = 0 by omega, Nat.pow_zero, Nat.mul_one] at hx
        rw [show (q + 3).toNat = 0 by omega, Nat.pow_zero, Nat.mul_one, hx]
        have e2 : (-q).toNat = (-(q + 3)).toNat + 3 := by omega
        rw [e2, Nat.pow_add]
        show i * ((2 ^ (-(q + 3)).toNat * 8 : Nat) : Int) = _
        rw [Int.natCast_mul, ← Int.mul_assoc, Int.mul_comm 8 i, Int.mul_assoc, Int.mul_assoc, Int.mul_comm 8]
        rfl
/-- the rounded number is that of the whole number of eighths -/
theorem w8_rr {i : Int} {s : Bool} {c : Nat} {q : Int} (h : W8 i (.fin s c q)) : FP.Core.round FP.Core.b64 (.fin s c q) = FP.Core.roundRatio FP.Core.b64 s i.natAbs 1 (-3) := by
  refine FP.Core.roundRatio_congr (by decide) (by decide) ?_
  have h : FP.Core.Whole i (.fin s c (q + 3)) := h
  have := FP.Core.whole_natAbs h
  rw [show (q - -3).toNat = (q + 3).toNat by omega, show (-3 - q).toNat = (-(q + 3)).toNat by omega]
  simpa using this
theorem w8_round {i : Int} (hi : i.natAbs ≤ 2 ^ 53) {d : FP.Core.Datum} (h : W8 i d) : W8 i (FP.Core.round FP.Core.b64 d) := by
  cases d with
  | nan => exact h.elim
  | inf => exact h.elim
  | fin s c q =>
    rw [w8_rr h]
    by_cases h0 : i = 0
    · subst h0
      show W8 0 (if (0 : Int).natAbs = 0 then .fin s 0 FP.Core.b64.qmin else _)
      rw [if_pos (by decide)]
      show FP.Core.signed s (0 * _) = 0 * _
      rw [Nat.zero_mul, FP.Core.signed_zero, Int.zero_mul]
    · obtain ⟨c', q', hfit, hv⟩ := FP.Core.natFit FP.Core.good_b64 FP.Core.wide_b64 s (n := i.natAbs) hi
      obtain ⟨f1, f2, f3, f4⟩ := hfit
      have hq : -53 < q' := by
        refine Int.lt_of_not_ge fun g => ?_
        rw [show (q' - 0).toNat = 0 by omega, Nat.pow_zero, Nat.mul_one, Nat.mul_one] at hv
        have p1 : 2 ^ 53 ≤ 2 ^ (0 - q').toNat := Nat.pow_le_pow_right (by decide) (by omega)
        have p2 : 1 * 2 ^ (0 - q').toNat ≤ i.natAbs * 2 ^ (0 - q').toNat := Nat.mul_le_mul_right _ (by omega)
        have p3 : (2 : Nat) ^ FP.Core.b64.p = 2 ^ 53 := by decide
        omega
      have hqm : FP.Core.b64.qmin = -1074 := by decide
      have hfit2 : FP.Core.fits FP.Core.b64 (.fin s c' (q' - 3)) := ⟨f1, by omega, by omega, f4.elim (fun g => by omega) Or.inr⟩
      rw [FP.Core.roundRatio_exact FP.Core.good_b64 (by decide) hfit2 (by rw [show (-3 - (q' - 3)).toNat = (0 - q').toNat by omega, show (q' - 3 - -3).toNat = (q' - 0).toNat by omega]; exact hv)]
      show FP.Core.signed s (c' * 2 ^ (q' - 3 + 3).toNat) = i * ((2 ^ (-(q' - 3 + 3)).toNat : Nat) : Int)
      rw [show q' - 3 + 3 = q' by omega]
      rw [show (0 - q').toNat = (-q').toNat by omega, show (q' - 0).toNat = q'.toNat by omega, Nat.mul_one] at hv
      rw [← hv, FP.Core.signed_mul]
      congr 1
      have h : FP.Core.Whole i (.fin s c (q + 3)) := h
      rw [FP.Core.whole_sign h h0]
      unfold FP.Core.signed
      by_cases g : i < 0 <;> simp [g] <;> omega
theorem w8_trunc {i : Int} {s : Bool} {c : Nat} {q : Int} (hi : 0 ≤ i) (h : W8 i (.fin s c q)) : FP.Core.truncate s c q = i / 8 := by
  have h : FP.Core.Whole i (.fin s c (q + 3)) := h
  by_cases h0 : i = 0
  · have := (FP.Core.whole_zero h).mpr h0
    subst this
    subst h0
    show FP.Core.signed s (0 * _ / _) = 0
    rw [Nat.zero_mul, Nat.zero_div, FP.Core.signed_zero]
  · have hs := FP.Core.whole_sign h h0
    have hn := FP.Core.whole_natAbs h
    rw [decide_eq_false (by omega)] at hs
    subst hs
    show ((c * 2 ^ q.toNat / 2 ^ (-q).toNat : Nat) : Int) = i / 8
    obtain ⟨n, rfl⟩ := nat_of hi
    rw [Int.natAbs_natCast] at hn
    have goal : c * 2 ^ q.toNat / 2 ^ (-q).toNat = n / 8 := by
      by_cases g0 : 0 ≤ q
      · rw [show (-(q + 3)).toNat = 0 by omega, show (q + 3).toNat = q.toNat + 3 by omega, Nat.pow_add] at hn
        rw [show (-q).toNat = 0 by omega]
        have : c * 2 ^ q.toNat * 8 = n := by rw [Nat.mul_assoc]; simpa using hn
        rw [← this]
        simp
      · by_cases g3 : 0 ≤ q + 3
        · rw [show (-(q + 3)).toNat = 0 by omega, Nat.pow_zero, Nat.mul_one] at hn
          rw [← hn, show q.toNat = 0 by omega, Nat.pow_zero, Nat.mul_one]
          have : (8 : Nat) = 2 ^ (-q).toNat * 2 ^ (q + 3).toNat := by rw [← Nat.pow_add, show (-q).toNat + (q + 3).toNat = 3 by omega]
          rw [this, Nat.mul_div_mul_right _ _ (Nat.two_pow_pos _)]
        · rw [show (q + 3).toNat = 0 by omega, Nat.pow_zero, Nat.mul_one] at hn
          rw [show q.toNat = 0 by omega, Nat.pow_zero, Nat.mul_one, hn, show (-q).toNat = 3 + (-(q + 3)).toNat by omega, Nat.pow_add]
          rw [Nat.mul_div_mul_right _ _ (Nat.two_pow_pos _)]
    rw [goal]
    omega
/-! the numbers themselves -/
def D8 (i : Int) (a : UInt64) : Prop := W8 i (FP.Core.val64 a)
def D1 (i : Int) (a : UInt64) : Prop := FP.Core.Whole i (FP.Core.val64 a)
theorem d8_n {i : Int} {a : UInt64} (h : D8 i a) : vf_n64 a := by
  have h1 := (FP.Core.ne_nan a).mp (w8_nan h)
  unfold vf_n64
  rw [UInt64.le_iff_toNat_le, UInt64.toNat_and]
  have : (0x7fffffffffffffff : UInt64).toNat = 2 ^ 63 - 1 := by decide
  rw [this, Nat.and_two_pow_sub_one_eq_mod]
  exact h1
theorem d8_of {i : Int} {a : UInt64} (h : D1 i a) : D8 (8 * i) a := w8_whole h
theorem d1_i {x : Int} (h : rg x) : D1 x (FP.i2d (iI x)) := by
  have := FP.Core.i2d_int (iI x)
  rw [iI_toInt h] at this
  exact this
theorem d8_mul {i j : Int} {a b : UInt64} (ha : D1 i a) (hb : D8 j b) (h : (i * j).natAbs ≤ 2 ^ 53) : D8 (i * j) (FP.dmul a b) := by
  unfold D8
  rw [show FP.Core.val64 (FP.dmul a b) = _ from FP.Core.val64_dmul a b]
  exact w8_round h (w8_prod ha hb)
theorem d8_add {i j : Int} {a b : UInt64} (ha : D8 i a) (hb : D8 j b) (h : (i + j).natAbs ≤ 2 ^ 53) : D8 (i + j) (FP.dadd a b) := by
  unfold D8
  rw [show FP.Core.val64 (FP.dadd a b) = _ from FP.Core.val64_dadd a b]
  exact w8_round h (w8_sum ha hb)
theorem d8_sub {i j : Int} {a b : UInt64} (ha : D8 i a) (hb : D8 j b) (h : (i - j).natAbs ≤ 2 ^ 53) : D8 (i - j) (FP.dsub a b) := by
  unfold D8
  rw [show FP.Core.val64 (FP.dsub a b) = _ from FP.Core.val64_dsub a b]
  exact w8_round h (w8_sum ha (w8_neg hb))
theorem d8_cmp {i j : Int} {a b : UInt64} {op : CmpOp} (ha : D8 i a) (hb : D8 j b) : Op.cmpValue (FP.dcmp a b) op = iI (if i < j then -1 else if i = j then 0 else 1) := by
  have : FP.dcmp a b = some (compare i j) := w8_order ha hb
  rw [this, FP.Core.compare_ite]
  by_cases h1 : i < j
  · rw [if_pos h1, if_pos h1]; rfl
  · rw [if_neg h1, if_neg h1]
    by_cases h2 : i = j
    · rw [if_pos h2, if_pos h2]; rfl
    · rw [if_neg h2, if_neg h2]; rfl
theorem d8_int {i : Int} {a : UInt64} (h : D8 i a) (h0 : 0 ≤ i) (h1 : i / 8 < 2147483648) : FP.d2i a = iI (i / 8) := by
  show FP.Core.toI (FP.Core.val64 a) = _
  unfold D8 at h
  cases e : FP.Core.val64 a with
  | nan => rw [e] at h; exact h.elim
  | inf => rw [e] at h; exact h.elim
  | fin s c q =>
    rw [e] at h
    show Int32.ofInt (max (-2 ^ 31) (min (2 ^ 31 - 1) (FP.Core.truncate s c q))) = iI (i / 8)
    rw [w8_trunc h0 h]
    unfold iI
    congr 1
    have : (2 : Int) ^ 31 = 2147483648 := by decide
    omega
theorem d8_half : D8 4 4602678819172646912 := by
  have : FP.Core.val64 4602678819172646912 = .fin false (2 ^ 52) (-53) := by decide +kernel
  unfold D8
  rw [this]
  show FP.Core.signed false (2 ^ 52 * 2 ^ ((-53 : Int) + 3).toNat) = 4 * ((2 ^ (-((-53 : Int) + 3)).toNat : Nat) : Int)
  decide +kernel
theorem d8_zero : D8 0 0 := by
  have : FP.Core.val64 0 = .fin false 0 (-1074) := by decide +kernel
  unfold D8
  rw [this]
  show FP.Core.signed false (0 * 2 ^ _) = 0 * _
  rw [Nat.zero_mul, Int.zero_mul]
  rfl
end FPM
