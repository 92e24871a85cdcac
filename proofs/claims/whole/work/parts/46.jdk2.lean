section ZDB
variable {p : Program} {l : Launch} {e : Env} {R : Room} {s : State} {m : MethodId} {args : Array Value} {below : List Frame} {meth : Method} {c : Code} {D : va_G} {cs : Nat → ClassId} {ids : List Ix} {ad : Ix → Nat} {A : Nat → Prop} {H0 : Heap} {nL : Nat} {Q : State → Prop} {mc ms : Nat} {σ : Mem} {pc : Nat} {lo : List (Option Value)} {st : List Value} {cc : ByteArray} {own : String}
/-- a call that comes back with a double, as the library says it -/
theorem zr_dback (X : Cx p s m args meth c cc nL own) {y : MethodName} {bytes : ByteArray} {maxL index n : Nat} {As st1 : List Value} {z : UInt64} {Pre : Pt → Array Value → Prop} {Post : Pt → Array Value → Option Value → Pt → Prop} (hK : Back l R p e below s args y 3 8 Pre Post) (L : lkS own index y bytes maxL (some .double)) (hd : dcl y n) (hst : st1 = As.reverse ++ st) (hn : As.length = n) (hW : (st.map fun v => v.category).sum ≤ 8) (hR : 0 + 1 ≤ R.frames ∧ 8 + (maxL + 11) + (100 + 60 * 0) ≤ R.locals)
    (hpre : ∀ P, Pre P As.toArray) (hpost : ∀ P v B, Post P As.toArray v B → B = P ∧ v = some (.double z)) (d : decode cc pc = .ok (.invokestatic index, 3))
    (kk : Wx p l e R s m args below meth c D cs ids ad A H0 nL Q mc ms σ (pc + 3) lo (.double z :: st)) : Wx p l e R s m args below meth c D cs ids ad A H0 nL Q mc ms σ pc lo st1 := fun H locs ls hP hS hl => by
  subst hst
  obtain ⟨⟨-, -, -, -, -, -, hcode, hini, hy, hlen, hlk⟩, hstt⟩ := cb_S (mc1 := 0) (ms1 := 0) (h := 0) X L hd hR
  intro T hT Xs
  obtain ⟨v, vm₁, B, hW₁, X', hq, hs⟩ := callS Xs X.1 (bytes := bytes) (maxL := maxL) (ret := some .double) X.2.2.2.1 hlk hstt hini hcode hy hK (g := F0 m pc ls (As.reverse ++ st)) rfl (hl.1.trans X.2.2.1.symm) (argsL := As) (rest := st) (fun sig h => hn.trans (hlen sig h)) rfl (by show 2 * 0 + _ ≤ 8; omega) (by rw [X.2.1]; exact d) (fun vm₁ hW₁ => hpre _)
  obtain ⟨rfl, rfl⟩ := hpost _ _ _ hq
  obtain ⟨t2, a1, b1⟩ := kk H locs ls hP hS hl (T.setVm vm₁) hT X'
  exact ⟨t2, hs t2 a1, b1⟩
end ZDB
theorem dc_J9_abs_294c1 : dcl yJ9_abs_294c1 1 := ⟨by decide, by decide, by decide +kernel⟩
theorem dc_J9_copySign_eb370 : dcl yJ9_copySign_eb370 2 := ⟨by decide, by decide, by decide +kernel⟩
theorem dc_J9_min_eb370 : dcl yJ9_min_eb370 2 := ⟨by decide, by decide, by decide +kernel⟩
theorem dc_J9_rint_294c1 : dcl yJ9_rint_294c1 1 := ⟨by decide, by decide, by decide +kernel⟩
theorem dc_Jxfc994_rint_294c1 : dcl yJxfc994_rint_294c1 1 := ⟨by decide, by decide, by decide +kernel⟩
section ZDC
variable {p : Program} {l : Launch} {e : Env} {R : Room} {s : State} {m : MethodId} {args : Array Value} {below : List Frame} {meth : Method} {c : Code} {D : va_G} {cs : Nat → ClassId} {ids : List Ix} {ad : Ix → Nat} {A : Nat → Prop} {H0 : Heap} {nL : Nat} {Q : State → Prop} {mc ms : Nat} {σ : Mem} {pc : Nat} {lo : List (Option Value)} {st : List Value} {cc : ByteArray} {own : String}
theorem mask_b {a : UInt64} (h : a.toNat < 2 ^ 63) : a &&& 0x7fffffffffffffff = a := by
  apply UInt64.toNat_inj.mp
  rw [UInt64.toNat_and, show (0x7fffffffffffffff : UInt64).toNat = 2 ^ 63 - 1 by decide, Nat.and_two_pow_sub_one_eq_mod]
  exact Nat.mod_eq_of_lt h
theorem shr_b {a : UInt64} (h : a.toNat < 2 ^ 63) : a >>> 63 = 0 := by
  apply UInt64.toNat_inj.mp
  rw [UInt64.toNat_shiftRight, show (63 : UInt64).toNat % 64 = 63 by decide, Nat.shiftRight_eq_div_pow, Nat.div_eq_of_lt h]
  rfl
theorem nan_b {a : UInt64} (h : vf_n64 a) : FP.dIsNaN a = false := by
  rw [show FP.dIsNaN a = FP.Core.dIsNaN a from rfl, FP.Core.notNaN_iff, FP.Core.ne_nan]
  unfold vf_n64 at h
  rw [UInt64.le_iff_toNat_le, UInt64.toNat_and, show (0x7fffffffffffffff : UInt64).toNat = 2 ^ 63 - 1 by decide, Nat.and_two_pow_sub_one_eq_mod] at h
  exact h
theorem zr_absD (X : Cx p s m args meth c cc nL own) {index : Nat} {a : UInt64} (hw : Cond.methodLink own index yJ9_abs_294c1 ∈ TB) (ha : a.toNat < 2 ^ 63) (hn : vf_n64 a) (hW : (st.map fun v => v.category).sum ≤ 8) (hR : 0 + 1 ≤ R.frames ∧ 8 + (2 + 11) + (100 + 60 * 0) ≤ R.locals) (d : decode cc pc = .ok (.invokestatic index, 3)) (kk : Wx p l e R s m args below meth c D cs ids ad A H0 nL Q mc ms σ (pc + 3) lo (.double a :: st)) : Wx p l e R s m args below meth c D cs ids ad A H0 nL Q mc ms σ pc lo (.double a :: st) :=
  zr_dback X (As := [.double a]) (Free.NT.Abs64.pays (X.2.2.2.2.1 _ tw_818) (X.2.2.2.2.1 _ tw_817) hR.1 (by omega)) ⟨hw, tw_817, tw_16, tw_818⟩ dc_J9_abs_294c1 rfl rfl hW hR (fun _ => ⟨a, rfl, hn⟩) (fun P v B h => ⟨h.1, (h.2 a ⟨rfl, hn⟩).trans (by rw [mask_b ha])⟩) d kk
theorem zr_cpsD (X : Cx p s m args meth c cc nL own) {index : Nat} {a : UInt64} (hw : Cond.methodLink own index yJ9_copySign_eb370 ∈ TB) (ha : a.toNat < 2 ^ 63) (hn : vf_n64 a) (hW : (st.map fun v => v.category).sum ≤ 8) (hR : 0 + 1 ≤ R.frames ∧ 8 + (4 + 11) + (100 + 60 * 0) ≤ R.locals) (d : decode cc pc = .ok (.invokestatic index, 3)) (kk : Wx p l e R s m args below meth c D cs ids ad A H0 nL Q mc ms σ (pc + 3) lo (.double 4607182418800017408 :: st)) : Wx p l e R s m args below meth c D cs ids ad A H0 nL Q mc ms σ pc lo (.double a :: .double 4607182418800017408 :: st) :=
  zr_dback X (As := [.double 4607182418800017408, .double a]) (Free.NT.CopySign64.pays (X.2.2.2.2.1 _ tw_807) (X.2.2.2.2.1 _ tw_806) hR.1 (by omega)) ⟨hw, tw_806, tw_16, tw_807⟩ dc_J9_copySign_eb370 rfl rfl hW hR (fun _ => ⟨(4607182418800017408, a), rfl, nan_b hn⟩) (fun P v B h => ⟨h.1, (h.2 (4607182418800017408, a) ⟨rfl, nan_b hn⟩).trans (by
    unfold copySign64
    rw [show (((4607182418800017408 : UInt64), a).2) = a from rfl, shr_b ha]
    exact congrArg (fun q => some (Value.double q)) (show ((4607182418800017408 : UInt64) &&& 0x7fffffffffffffff ||| (if ((0 : UInt64) == 1) = true then 0x8000000000000000 else 0)) = 4607182418800017408 by decide))⟩) d kk
theorem zr_minD (X : Cx p s m args meth c cc nL own) {index : Nat} {a b : UInt64} (hw : Cond.methodLink own index yJ9_min_eb370 ∈ TB) (hna : vf_n64 a) (hnb : vf_n64 b) (hW : (st.map fun v => v.category).sum ≤ 8) (hR : 0 + 1 ≤ R.frames ∧ 8 + (4 + 11) + (100 + 60 * 0) ≤ R.locals) (d : decode cc pc = .ok (.invokestatic index, 3)) (kk : Wx p l e R s m args below meth c D cs ids ad A H0 nL Q mc ms σ (pc + 3) lo (.double (Native.java_lang_Math.nans.pick64 false a b) :: st)) : Wx p l e R s m args below meth c D cs ids ad A H0 nL Q mc ms σ pc lo (.double b :: .double a :: st) :=
  zr_dback X (As := [.double a, .double b]) (Free.NT.Min64.pays (X.2.2.2.2.1 _ tw_822) (X.2.2.2.2.1 _ tw_821) hR.1 (by omega)) ⟨hw, tw_821, tw_16, tw_822⟩ dc_J9_min_eb370 rfl rfl hW hR (fun _ => ⟨(a, b), rfl, nan_b hna, nan_b hnb⟩) (fun P v B h => ⟨h.1, h.2 (a, b) ⟨rfl, nan_b hna, nan_b hnb⟩⟩) d kk
theorem pick_min {i j : Int} {a b : UInt64} (ha : D1 i a) (hb : D1 j b) : D1 (if i ≤ j then i else j) (Native.java_lang_Math.nans.pick64 false a b) := by
  unfold Native.java_lang_Math.nans.pick64
  rw [show FP.dcmp a b = some (compare i j) from FP.Core.dcmp_int ha hb, FP.Core.compare_ite]
  by_cases h1 : i < j
  · rw [if_pos h1, if_pos (by omega)]; exact ha
  · rw [if_neg h1]
    by_cases h2 : i = j
    · rw [if_pos h2, if_pos (by omega)]
      show D1 i (if _ then b else a)
      split
      · rw [h2]; exact hb
      · exact ha
    · rw [if_neg h2, if_neg (by omega)]; exact hb
end ZDC
