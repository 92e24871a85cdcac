/-! THE JDK's METHODS OF DOUBLES -/
section ZND
variable {p : Program} {l : Launch} {e : Env} {R : Room} {s : State} {m : MethodId} {args : Array Value} {below : List Frame} {meth : Method} {c : Code} {D : va_G} {cs : Nat → ClassId} {ids : List Ix} {ad : Ix → Nat} {A : Nat → Prop} {H0 : Heap} {nL : Nat} {Q : State → Prop} {mc ms : Nat} {σ : Mem} {pc : Nat} {lo : List (Option Value)} {st : List Value} {cc : ByteArray} {own : String}
theorem zr_d2l (X : Cx p s m args meth c cc nL own) {index : Nat} {b : UInt64} (hw : Cond.methodLink own index ⟨"java/lang/Double", "doubleToRawLongBits", "(D)J"⟩ ∈ TB) (hR : 1 ≤ R.frames ∧ (st.map fun v => v.category).sum + 15 ≤ R.locals) (d : decode cc pc = .ok (.invokestatic index, 3)) (k : Wx p l e R s m args below meth c D cs ids ad A H0 nL Q mc ms σ (pc + 3) lo (.long b.toInt64 :: st)) : Wx p l e R s m args below meth c D cs ids ad A H0 nL Q mc ms σ pc lo (.double b :: st) := fun H locs ls hP hS hl =>
  vn_d2l X.1 X.2.1 (X.2.2.1.trans hl.1.symm) X.2.2.2.1 (X.2.2.2.2.1 _ hw) (X.2.2.2.2.1 _ tw_810) (X.2.2.2.2.1 _ tw_809) (X.2.2.2.2.1 _ tw_19) hR.1 hR.2 d (k H locs ls hP hS hl)
theorem zr_l2d (X : Cx p s m args meth c cc nL own) {index : Nat} {b : Int64} {z : UInt64} (hw : Cond.methodLink own index ⟨"java/lang/Double", "longBitsToDouble", "(J)D"⟩ ∈ TB) (hR : 1 ≤ R.frames ∧ (st.map fun v => v.category).sum + 15 ≤ R.locals) (hz : b.toUInt64 = z) (hv : vf_n64 z) (d : decode cc pc = .ok (.invokestatic index, 3)) (k : Wx p l e R s m args below meth c D cs ids ad A H0 nL Q mc ms σ (pc + 3) lo (.double z :: st)) : Wx p l e R s m args below meth c D cs ids ad A H0 nL Q mc ms σ pc lo (.long b :: st) := fun H locs ls hP hS hl =>
  vn_l2d X.1 X.2.1 (X.2.2.1.trans hl.1.symm) X.2.2.2.1 (X.2.2.2.2.1 _ hw) (X.2.2.2.2.1 _ tw_815) (X.2.2.2.2.1 _ tw_814) (X.2.2.2.2.1 _ tw_19) (by
    unfold vn_snl2d
    rw [hz]
    unfold vf_n64 at hv
    rw [Bool.and_eq_false_iff]
    exact Or.inl (decide_eq_false (by rw [gt_iff_lt, UInt64.lt_iff_toNat_lt]; rw [UInt64.le_iff_toNat_le] at hv; omega))) hR.1 hR.2 d (by rw [hz]; exact k H locs ls hP hS hl)
end ZND
theorem abs_b {a : UInt64} (h : a.toNat < 2 ^ 63) : (a.toInt64 &&& iL 9223372036854775807).toUInt64 = a := by
  apply UInt64.toNat_inj.mp
  show (a.toBitVec &&& (iL 9223372036854775807).toBitVec).toNat = a.toNat
  rw [BitVec.toNat_and, show (iL 9223372036854775807).toBitVec.toNat = 2 ^ 63 - 1 by decide, Nat.and_two_pow_sub_one_eq_mod]
  exact Nat.mod_eq_of_lt h
theorem sgn_b {a : UInt64} (h : a.toNat < 2 ^ 63) : ((a.toInt64 &&& iL (-9223372036854775808)) ||| ((4607182418800017408 : UInt64).toInt64 &&& iL 9223372036854775807)).toUInt64 = 4607182418800017408 := by
  apply UInt64.toNat_inj.mp
  show ((a.toBitVec &&& (iL (-9223372036854775808)).toBitVec) ||| ((4607182418800017408 : UInt64).toBitVec &&& (iL 9223372036854775807).toBitVec)).toNat = _
  rw [BitVec.toNat_or, BitVec.toNat_and, show (iL (-9223372036854775808)).toBitVec.toNat = 2 ^ 63 by decide, show ((4607182418800017408 : UInt64).toBitVec &&& (iL 9223372036854775807).toBitVec).toNat = 4607182418800017408 by decide]
  have : a.toBitVec.toNat &&& 2 ^ 63 = 0 := by
    refine Nat.eq_of_testBit_eq fun i => ?_
    rw [Nat.testBit_and, Nat.testBit_two_pow, Nat.zero_testBit]
    by_cases g : 63 = i
    · rw [← g, Nat.testBit_lt_two_pow (x := a.toBitVec.toNat) h, Bool.false_and]
    · rw [decide_eq_false g, Bool.and_false]
  rw [this]
  decide
/-- rounding at the place of the units -/
theorem w8_big {N : Int} (h1 : 36028797018963968 ≤ N) (h2 : N ≤ 36028797018963968 + 8000000000) {d : FP.Core.Datum} (h : W8 N d) : FP.Core.Whole (4503599627370496 + rn8 (N - 36028797018963968)) (FP.Core.round FP.Core.b64 d) := by
  cases d with
  | nan => exact h.elim
  | inf => exact h.elim
  | fin s c q =>
    have hs := FP.Core.whole_sign (show FP.Core.Whole N (.fin s c (q + 3)) from h) (by omega)
    rw [w8_rr h]
    obtain ⟨n, rfl⟩ := nat_of (show 0 ≤ N by omega)
    rw [Int.natAbs_natCast]
    have p56 : (2 : Nat) ^ 56 = 72057594037927936 := by decide
    have p55 : (2 : Nat) ^ 55 = 36028797018963968 := by decide
    have hq : FP.Core.quantum FP.Core.b64 n 1 (-3) = 0 := by
      refine FP.Core.quantum_eq (by omega) (by decide) (by decide) ?_ (Or.inr ?_)
      · show n * 2 ^ (-((0 : Int) - -3 + (53 : Nat))).toNat < 1 * 2 ^ ((0 : Int) - -3 + (53 : Nat)).toNat
        rw [show (-((0 : Int) - -3 + (53 : Nat))).toNat = 0 by decide, show ((0 : Int) - -3 + (53 : Nat)).toNat = 56 by decide]
        omega
      · show ¬ n * 2 ^ (-((0 : Int) - -3 + ((53 : Nat) - 1))).toNat < 1 * 2 ^ ((0 : Int) - -3 + ((53 : Nat) - 1)).toNat
        rw [show (-((0 : Int) - -3 + ((53 : Nat) - 1))).toNat = 0 by decide, show ((0 : Int) - -3 + ((53 : Nat) - 1)).toNat = 55 by decide]
        omega
    unfold FP.Core.roundRatio
    rw [if_neg (by omega), hq]
    unfold FP.Core.roundAt FP.Core.unitsNum FP.Core.unitsDen
    rw [show ((-3 : Int) - 0).toNat = 0 by decide, show ((0 : Int) - -3).toNat = 3 by decide, show n * 2 ^ 0 = n by omega, show (1 : Nat) * 2 ^ 3 = 8 by decide]
    have hM : (FP.Core.nearest n 8 : Int) = 4503599627370496 + rn8 ((n : Int) - 36028797018963968) := by
      unfold FP.Core.nearest rn8
      split <;> (try split) <;> (try split) <;> (try split) <;> omega
    have hb : FP.Core.nearest n 8 < 2 ^ 53 := by
      have p53 : (2 : Nat) ^ 53 = 9007199254740992 := by decide
      have : rn8 ((n : Int) - 36028797018963968) ≤ 1000000001 := by
        unfold rn8
        split
        · omega
        · split <;> omega
      omega
    unfold FP.Core.settle
    rw [if_pos (show FP.Core.nearest n 8 < 2 ^ FP.Core.b64.p from hb)]
    unfold FP.Core.bound
    rw [if_pos (by decide)]
    show FP.Core.signed s (FP.Core.nearest n 8 * 2 ^ (0 : Int).toNat) = (4503599627370496 + rn8 ((n : Int) - 36028797018963968)) * ((2 ^ (-(0 : Int)).toNat : Nat) : Int)
    rw [hs, decide_eq_false (by omega)]
    show ((FP.Core.nearest n 8 * 1 : Nat) : Int) = _ * ((1 : Nat) : Int)
    omega
theorem d1_n {i : Int} {a : UInt64} (h : D1 i a) : vf_n64 a := d8_n (d8_of h)
theorem d1_52 : D1 4503599627370496 4841369599423283200 := by
  have : FP.Core.val64 4841369599423283200 = .fin false (2 ^ 52) 0 := by decide +kernel
  unfold D1
  rw [this]
  show FP.Core.signed false (2 ^ 52 * 2 ^ (0 : Int).toNat) = _ * _
  decide +kernel
theorem d1_1 : D1 1 4607182418800017408 := by
  have : FP.Core.val64 4607182418800017408 = .fin false (2 ^ 52) (-52) := by decide +kernel
  unfold D1
  rw [this]
  show FP.Core.signed false (2 ^ 52 * 2 ^ (-52 : Int).toNat) = _ * _
  decide +kernel
theorem d1_6 : D1 1000000 4696837146684686336 := by
  have : FP.Core.val64 4696837146684686336 = .fin false (1000000 * 2 ^ 33) (-33) := by decide +kernel
  unfold D1
  rw [this]
  show FP.Core.signed false (1000000 * 2 ^ 33 * 2 ^ (-33 : Int).toNat) = _ * _
  decide +kernel
theorem d1_big {n : Int} {a : UInt64} (h : D8 n a) (hn : 0 ≤ n ∧ n ≤ 8000000000) : D1 (4503599627370496 + rn8 n) (FP.dadd 4841369599423283200 a) := by
  unfold D1
  rw [show FP.Core.val64 (FP.dadd 4841369599423283200 a) = _ from FP.Core.val64_dadd _ a]
  have := w8_big (N := 36028797018963968 + n) (by omega) (by omega) (w8_sum (w8_whole d1_52) h)
  rwa [show 36028797018963968 + n - 36028797018963968 = n by omega] at this
theorem d1_sub {i j : Int} {a b : UInt64} (ha : D1 i a) (hb : D1 j b) (h : (i - j).natAbs ≤ 2 ^ 53) : D1 (i - j) (FP.dsub a b) := FP.Core.dsub_int ha hb h
theorem d1_mul {i j : Int} {a b : UInt64} (ha : D1 i a) (hb : D1 j b) (h : (i * j).natAbs ≤ 2 ^ 53) : D1 (i * j) (FP.dmul a b) := FP.Core.dmul_int ha hb h
theorem rn8_rg {n : Int} (h : 0 ≤ n ∧ n ≤ 8000000000) : 0 ≤ rn8 n ∧ rn8 n ≤ 1000000001 := by
  unfold rn8
  split
  · omega
  · split <;> omega
