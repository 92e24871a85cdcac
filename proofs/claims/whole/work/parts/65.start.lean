/-! THE LAW, FROM ITS ENTRY -/
def adN (z k : Nat) : Nat := match k with
  | 0 => z + 1
  | 2 => z + 2
  | 3 => z + 3
  | 4 => z + 4
  | _ => z + 5
def adC (z k : Nat) : Nat := match k with
  | 0 => z + 46
  | 1 => z + 56
  | 2 => z + 57
  | 3 => z + 47
  | 4 => z + 58
  | 5 => z + 59
  | 6 => z + 60
  | _ => z
def adM (z k : Nat) : Nat := match k with
  | 0 => z + 61
  | 4 => z + 62
  | 5 => z + 63
  | 6 => z + 64
  | 10 => z + 65
  | 11 => z + 66
  | 12 => z + 67
  | 13 => z + 68
  | 14 => z + 69
  | 16 => z + 70
  | 17 => z + 71
  | 18 => z + 72
  | 19 => z + 73
  | _ => z + 74
/-- where the cells stand, from the law's first new one on -/
def adL (z : Nat) : Ix → Nat
  | (0, k) => adN z k
  | (1, v) => z + 6 + v
  | (2, v) => z + 48 + v
  | (3, k) => adC z k
  | (4, k) => adM z k
  | (5, k) => z + 75 + k
  | (6, k) => z + 30 + k
  | (g, k) => z + 38 + k
theorem adL_z (z : Nat) : ∀ i ∈ idsA, adL z i = z + adL 0 i := by
  intro i hi
  have hi : i ∈ ([] : List Ix) ∨ i ∈ idsA := Or.inr hi
  match i with
  | (0, k) => show adN z k = z + adN 0 k; unfold adN; split <;> omega
  | (1, v) => show z + 6 + v = z + (0 + 6 + v); omega
  | (2, v) => show z + 48 + v = z + (0 + 48 + v); omega
  | (3, k) => show adC z k = z + adC 0 k; unfold adC; split <;> omega
  | (4, k) => show adM z k = z + adM 0 k; unfold adM; split <;> omega
  | (5, k) => show z + 75 + k = z + (0 + 75 + k); omega
  | (6, k) => show z + 30 + k = z + (0 + 30 + k); omega
  | (g + 7, k) => show z + 38 + k = z + (0 + 38 + k); omega
theorem adL_ap (z : Nat) : Apart idsA (adL z) := by
  have h : ∀ i ∈ idsA, ∀ j ∈ idsA, adL 0 i = adL 0 j → i = j := by decide +kernel
  intro i hi j hj e
  rw [adL_z z i hi, adL_z z j hj] at e
  exact h i hi j hj (by omega)
theorem adL_le (z : Nat) : ∀ i ∈ idsA, z ≤ adL z i := fun i hi => by rw [adL_z z i hi]; omega
def sg0 : Mem := fun q _ => match q with
  | (4, 7) => -1
  | (4, 8) => -1
  | (6, 8) => -1
  | (6, 9) => -1
  | (7, 8) => -1
  | (7, 9) => -1
  | _ => 0
theorem SIM_0 : SIM sg0 := by
  have n0 : sg0 (0, 0) 0 = 0 := rfl
  have m0 : sg0 (0, 1) 0 = 0 := rfl
  have l0 : sg0 (3, 0) 0 = 0 := rfl
  have c0 : sg0 (3, 4) 0 = 0 := rfl
  refine ⟨⟨⟨⟨⟨⟨by omega, by omega⟩, ⟨by omega, by omega⟩, fun a a0 a1 => by omega⟩, ⟨fun v _ _ => ⟨Int.le_refl 0, Int.le_refl 0⟩, fun v _ _ => rfl, fun v i _ _ i0 i1 => ?_, fun a a0 a1 => by omega⟩, fun a a0 a1 => by omega⟩, Or.inl ⟨rfl, rfl⟩, ⟨0, Int.le_refl 0, fun X => ?_⟩, fun _ a a0 a1 => by omega, Or.inl rfl, fun h => ?_, fun a _ _ => ⟨rfl, rfl⟩⟩, fun a _ _ => ⟨Int.le_refl 0, (show (0 : Int) ≤ 1000000 by decide)⟩, ⟨⟨by omega, by omega⟩, fun i i0 i1 => by omega, fun i i0 i1 => by omega⟩, ⟨by omega, by omega⟩⟩, ⟨rfl, rfl, fun a a0 a1 => by omega, rfl, rfl⟩, ⟨rfl, fun i i0 i1 => by omega⟩, ⟨rfl, fun i i0 i1 => by omega⟩⟩
  · have : sg0 (0, 4) v = 0 := rfl
    omega
  · show net sg0 0 X = _
    unfold net
    rw [m0]
    show (0 : Int) = _
    unfold ind
    split <;> split <;> omega
  · have : sg0 (0 + 6, 10) 0 = 0 := rfl
    omega
theorem and31 (x : Int32) : ∃ v : Int, x &&& iI 31 = iI v ∧ 0 ≤ v ∧ v ≤ 31 := by
  have h : (x.toBitVec &&& 31#32).toNat ≤ 31 := by
    rw [BitVec.toNat_and]
    exact Nat.and_le_right
  refine ⟨((x.toBitVec &&& 31#32).toNat : Int), ?_, by omega, by omega⟩
  rw [← Int32.toInt_inj, iI_toInt ⟨by omega, by omega⟩]
  show (x.toBitVec &&& 31#32).toInt = _
  exact BitVec.toInt_eq_toNat_of_lt (by omega)
theorem wIn_Fn (cs : Nat → ClassId) (q : Nat) : wIn (wFn cs q (q + 1)) q (q + 61) := wIn_cons (b := q + 61) (fun x hx => by
  rcases List.mem_append.mp hx with hx | hx
  · have := wIn_Net cs (q + 1) x hx
    exact ⟨by omega, by omega⟩
  · rcases List.mem_append.mp hx with hx | hx
    · have := wIn_Max cs (q + 1 + 29) (q + 1) x hx
      exact ⟨by omega, by omega⟩
    · rcases List.mem_append.mp hx with hx | hx
      · have := wIn_Max cs (q + 1 + 37) (q + 1) x hx
        exact ⟨by omega, by omega⟩
      · rcases List.mem_append.mp hx with hx | hx
        · have := wIn_Lev cs (q + 1 + 45) x hx
          exact ⟨by omega, by omega⟩
        · have := wIn_Cut cs (q + 1 + 57) x hx
          exact ⟨by omega, by omega⟩) (Nat.le_refl _) (Nat.le_refl _) (by show q < q + 61; omega)
/-- all that the law makes -/
def wAll (cs : Nat → ClassId) (z : Nat) : va_W := (z + 76, .inl (cs 3, 1, .inr (.inr (.inr (.inl (fun _ => 0)))))) :: (z + 75, .inl (cs 2, 1, .inr (.inl (fun _ => iL 0)))) :: (wMod cs (z + 61) (z + 62) ++ (wFn cs z (z + 1) ++ []))

theorem pl_0_0 (cs : Nat → ClassId) (z : Nat) : (adL z (0, 0), enc cs (adL z) sg0 (0, 0)) ∈ wAll cs z := List.mem_of_getElem? (i := 17) rfl
theorem pl_0_2 (cs : Nat → ClassId) (z : Nat) : (adL z (0, 2), enc cs (adL z) sg0 (0, 2)) ∈ wAll cs z := List.mem_of_getElem? (i := 18) rfl
theorem pl_0_3 (cs : Nat → ClassId) (z : Nat) : (adL z (0, 3), enc cs (adL z) sg0 (0, 3)) ∈ wAll cs z := List.mem_of_getElem? (i := 19) rfl
theorem pl_0_4 (cs : Nat → ClassId) (z : Nat) : (adL z (0, 4), enc cs (adL z) sg0 (0, 4)) ∈ wAll cs z := List.mem_of_getElem? (i := 20) rfl
theorem pl_0_5 (cs : Nat → ClassId) (z : Nat) : (adL z (0, 5), enc cs (adL z) sg0 (0, 5)) ∈ wAll cs z := List.mem_of_getElem? (i := 21) rfl
theorem pl_1_0 (cs : Nat → ClassId) (z : Nat) : (adL z (1, 0), enc cs (adL z) sg0 (1, 0)) ∈ wAll cs z := List.mem_of_getElem? (i := 22) rfl
theorem pl_1_1 (cs : Nat → ClassId) (z : Nat) : (adL z (1, 1), enc cs (adL z) sg0 (1, 1)) ∈ wAll cs z := List.mem_of_getElem? (i := 23) rfl
theorem pl_1_2 (cs : Nat → ClassId) (z : Nat) : (adL z (1, 2), enc cs (adL z) sg0 (1, 2)) ∈ wAll cs z := List.mem_of_getElem? (i := 24) rfl
theorem pl_1_3 (cs : Nat → ClassId) (z : Nat) : (adL z (1, 3), enc cs (adL z) sg0 (1, 3)) ∈ wAll cs z := List.mem_of_getElem? (i := 25) rfl
theorem pl_1_4 (cs : Nat → ClassId) (z : Nat) : (adL z (1, 4), enc cs (adL z) sg0 (1, 4)) ∈ wAll cs z := List.mem_of_getElem? (i := 26) rfl
theorem pl_1_5 (cs : Nat → ClassId) (z : Nat) : (adL z (1, 5), enc cs (adL z) sg0 (1, 5)) ∈ wAll cs z := List.mem_of_getElem? (i := 27) rfl
theorem pl_1_6 (cs : Nat → ClassId) (z : Nat) : (adL z (1, 6), enc cs (adL z) sg0 (1, 6)) ∈ wAll cs z := List.mem_of_getElem? (i := 28) rfl
theorem pl_1_7 (cs : Nat → ClassId) (z : Nat) : (adL z (1, 7), enc cs (adL z) sg0 (1, 7)) ∈ wAll cs z := List.mem_of_getElem? (i := 29) rfl
theorem pl_1_8 (cs : Nat → ClassId) (z : Nat) : (adL z (1, 8), enc cs (adL z) sg0 (1, 8)) ∈ wAll cs z := List.mem_of_getElem? (i := 30) rfl
theorem pl_1_9 (cs : Nat → ClassId) (z : Nat) : (adL z (1, 9), enc cs (adL z) sg0 (1, 9)) ∈ wAll cs z := List.mem_of_getElem? (i := 31) rfl
theorem pl_1_10 (cs : Nat → ClassId) (z : Nat) : (adL z (1, 10), enc cs (adL z) sg0 (1, 10)) ∈ wAll cs z := List.mem_of_getElem? (i := 32) rfl
theorem pl_1_11 (cs : Nat → ClassId) (z : Nat) : (adL z (1, 11), enc cs (adL z) sg0 (1, 11)) ∈ wAll cs z := List.mem_of_getElem? (i := 33) rfl
theorem pl_1_12 (cs : Nat → ClassId) (z : Nat) : (adL z (1, 12), enc cs (adL z) sg0 (1, 12)) ∈ wAll cs z := List.mem_of_getElem? (i := 34) rfl
theorem pl_1_13 (cs : Nat → ClassId) (z : Nat) : (adL z (1, 13), enc cs (adL z) sg0 (1, 13)) ∈ wAll cs z := List.mem_of_getElem? (i := 35) rfl
theorem pl_1_14 (cs : Nat → ClassId) (z : Nat) : (adL z (1, 14), enc cs (adL z) sg0 (1, 14)) ∈ wAll cs z := List.mem_of_getElem? (i := 36) rfl
theorem pl_1_15 (cs : Nat → ClassId) (z : Nat) : (adL z (1, 15), enc cs (adL z) sg0 (1, 15)) ∈ wAll cs z := List.mem_of_getElem? (i := 37) rfl
theorem pl_1_16 (cs : Nat → ClassId) (z : Nat) : (adL z (1, 16), enc cs (adL z) sg0 (1, 16)) ∈ wAll cs z := List.mem_of_getElem? (i := 38) rfl
theorem pl_1_17 (cs : Nat → ClassId) (z : Nat) : (adL z (1, 17), enc cs (adL z) sg0 (1, 17)) ∈ wAll cs z := List.mem_of_getElem? (i := 39) rfl
theorem pl_1_18 (cs : Nat → ClassId) (z : Nat) : (adL z (1, 18), enc cs (adL z) sg0 (1, 18)) ∈ wAll cs z := List.mem_of_getElem? (i := 40) rfl
theorem pl_1_19 (cs : Nat → ClassId) (z : Nat) : (adL z (1, 19), enc cs (adL z) sg0 (1, 19)) ∈ wAll cs z := List.mem_of_getElem? (i := 41) rfl
theorem pl_1_20 (cs : Nat → ClassId) (z : Nat) : (adL z (1, 20), enc cs (adL z) sg0 (1, 20)) ∈ wAll cs z := List.mem_of_getElem? (i := 42) rfl
theorem pl_1_21 (cs : Nat → ClassId) (z : Nat) : (adL z (1, 21), enc cs (adL z) sg0 (1, 21)) ∈ wAll cs z := List.mem_of_getElem? (i := 43) rfl
theorem pl_1_22 (cs : Nat → ClassId) (z : Nat) : (adL z (1, 22), enc cs (adL z) sg0 (1, 22)) ∈ wAll cs z := List.mem_of_getElem? (i := 44) rfl
theorem pl_1_23 (cs : Nat → ClassId) (z : Nat) : (adL z (1, 23), enc cs (adL z) sg0 (1, 23)) ∈ wAll cs z := List.mem_of_getElem? (i := 45) rfl
theorem pl_2_0 (cs : Nat → ClassId) (z : Nat) : (adL z (2, 0), enc cs (adL z) sg0 (2, 0)) ∈ wAll cs z := List.mem_of_getElem? (i := 66) rfl
theorem pl_2_1 (cs : Nat → ClassId) (z : Nat) : (adL z (2, 1), enc cs (adL z) sg0 (2, 1)) ∈ wAll cs z := List.mem_of_getElem? (i := 67) rfl
theorem pl_2_2 (cs : Nat → ClassId) (z : Nat) : (adL z (2, 2), enc cs (adL z) sg0 (2, 2)) ∈ wAll cs z := List.mem_of_getElem? (i := 68) rfl
theorem pl_2_3 (cs : Nat → ClassId) (z : Nat) : (adL z (2, 3), enc cs (adL z) sg0 (2, 3)) ∈ wAll cs z := List.mem_of_getElem? (i := 69) rfl
theorem pl_2_4 (cs : Nat → ClassId) (z : Nat) : (adL z (2, 4), enc cs (adL z) sg0 (2, 4)) ∈ wAll cs z := List.mem_of_getElem? (i := 70) rfl
theorem pl_2_5 (cs : Nat → ClassId) (z : Nat) : (adL z (2, 5), enc cs (adL z) sg0 (2, 5)) ∈ wAll cs z := List.mem_of_getElem? (i := 71) rfl
theorem pl_2_6 (cs : Nat → ClassId) (z : Nat) : (adL z (2, 6), enc cs (adL z) sg0 (2, 6)) ∈ wAll cs z := List.mem_of_getElem? (i := 72) rfl
theorem pl_2_7 (cs : Nat → ClassId) (z : Nat) : (adL z (2, 7), enc cs (adL z) sg0 (2, 7)) ∈ wAll cs z := List.mem_of_getElem? (i := 73) rfl
theorem pl_3_0 (cs : Nat → ClassId) (z : Nat) : (adL z (3, 0), enc cs (adL z) sg0 (3, 0)) ∈ wAll cs z := List.mem_of_getElem? (i := 62) rfl
theorem pl_3_1 (cs : Nat → ClassId) (z : Nat) : (adL z (3, 1), enc cs (adL z) sg0 (3, 1)) ∈ wAll cs z := List.mem_of_getElem? (i := 63) rfl
theorem pl_3_2 (cs : Nat → ClassId) (z : Nat) : (adL z (3, 2), enc cs (adL z) sg0 (3, 2)) ∈ wAll cs z := List.mem_of_getElem? (i := 64) rfl
theorem pl_3_3 (cs : Nat → ClassId) (z : Nat) : (adL z (3, 3), enc cs (adL z) sg0 (3, 3)) ∈ wAll cs z := List.mem_of_getElem? (i := 65) rfl
theorem pl_3_4 (cs : Nat → ClassId) (z : Nat) : (adL z (3, 4), enc cs (adL z) sg0 (3, 4)) ∈ wAll cs z := List.mem_of_getElem? (i := 74) rfl
theorem pl_3_5 (cs : Nat → ClassId) (z : Nat) : (adL z (3, 5), enc cs (adL z) sg0 (3, 5)) ∈ wAll cs z := List.mem_of_getElem? (i := 75) rfl
theorem pl_3_6 (cs : Nat → ClassId) (z : Nat) : (adL z (3, 6), enc cs (adL z) sg0 (3, 6)) ∈ wAll cs z := List.mem_of_getElem? (i := 76) rfl
theorem pl_3_7 (cs : Nat → ClassId) (z : Nat) : (adL z (3, 7), enc cs (adL z) sg0 (3, 7)) ∈ wAll cs z := List.mem_of_getElem? (i := 16) rfl
theorem pl_6_0 (cs : Nat → ClassId) (z : Nat) : (adL z (6, 0), enc cs (adL z) sg0 (6, 0)) ∈ wAll cs z := List.mem_of_getElem? (i := 46) rfl
theorem pl_6_1 (cs : Nat → ClassId) (z : Nat) : (adL z (6, 1), enc cs (adL z) sg0 (6, 1)) ∈ wAll cs z := List.mem_of_getElem? (i := 47) rfl
theorem pl_6_2 (cs : Nat → ClassId) (z : Nat) : (adL z (6, 2), enc cs (adL z) sg0 (6, 2)) ∈ wAll cs z := List.mem_of_getElem? (i := 48) rfl
theorem pl_6_3 (cs : Nat → ClassId) (z : Nat) : (adL z (6, 3), enc cs (adL z) sg0 (6, 3)) ∈ wAll cs z := List.mem_of_getElem? (i := 49) rfl
theorem pl_6_4 (cs : Nat → ClassId) (z : Nat) : (adL z (6, 4), enc cs (adL z) sg0 (6, 4)) ∈ wAll cs z := List.mem_of_getElem? (i := 50) rfl
theorem pl_6_5 (cs : Nat → ClassId) (z : Nat) : (adL z (6, 5), enc cs (adL z) sg0 (6, 5)) ∈ wAll cs z := List.mem_of_getElem? (i := 51) rfl
theorem pl_6_6 (cs : Nat → ClassId) (z : Nat) : (adL z (6, 6), enc cs (adL z) sg0 (6, 6)) ∈ wAll cs z := List.mem_of_getElem? (i := 52) rfl
theorem pl_6_7 (cs : Nat → ClassId) (z : Nat) : (adL z (6, 7), enc cs (adL z) sg0 (6, 7)) ∈ wAll cs z := List.mem_of_getElem? (i := 53) rfl
theorem pl_7_0 (cs : Nat → ClassId) (z : Nat) : (adL z (7, 0), enc cs (adL z) sg0 (7, 0)) ∈ wAll cs z := List.mem_of_getElem? (i := 54) rfl
theorem pl_7_1 (cs : Nat → ClassId) (z : Nat) : (adL z (7, 1), enc cs (adL z) sg0 (7, 1)) ∈ wAll cs z := List.mem_of_getElem? (i := 55) rfl
theorem pl_7_2 (cs : Nat → ClassId) (z : Nat) : (adL z (7, 2), enc cs (adL z) sg0 (7, 2)) ∈ wAll cs z := List.mem_of_getElem? (i := 56) rfl
theorem pl_7_3 (cs : Nat → ClassId) (z : Nat) : (adL z (7, 3), enc cs (adL z) sg0 (7, 3)) ∈ wAll cs z := List.mem_of_getElem? (i := 57) rfl
theorem pl_7_4 (cs : Nat → ClassId) (z : Nat) : (adL z (7, 4), enc cs (adL z) sg0 (7, 4)) ∈ wAll cs z := List.mem_of_getElem? (i := 58) rfl
theorem pl_7_5 (cs : Nat → ClassId) (z : Nat) : (adL z (7, 5), enc cs (adL z) sg0 (7, 5)) ∈ wAll cs z := List.mem_of_getElem? (i := 59) rfl
theorem pl_7_6 (cs : Nat → ClassId) (z : Nat) : (adL z (7, 6), enc cs (adL z) sg0 (7, 6)) ∈ wAll cs z := List.mem_of_getElem? (i := 60) rfl
theorem pl_7_7 (cs : Nat → ClassId) (z : Nat) : (adL z (7, 7), enc cs (adL z) sg0 (7, 7)) ∈ wAll cs z := List.mem_of_getElem? (i := 61) rfl
theorem pl_4_0 (cs : Nat → ClassId) (z : Nat) : (adL z (4, 0), enc cs (adL z) sg0 (4, 0)) ∈ wAll cs z := List.mem_of_getElem? (i := 2) rfl
theorem pl_4_4 (cs : Nat → ClassId) (z : Nat) : (adL z (4, 4), enc cs (adL z) sg0 (4, 4)) ∈ wAll cs z := List.mem_of_getElem? (i := 3) rfl
theorem pl_4_5 (cs : Nat → ClassId) (z : Nat) : (adL z (4, 5), enc cs (adL z) sg0 (4, 5)) ∈ wAll cs z := List.mem_of_getElem? (i := 4) rfl
theorem pl_4_6 (cs : Nat → ClassId) (z : Nat) : (adL z (4, 6), enc cs (adL z) sg0 (4, 6)) ∈ wAll cs z := List.mem_of_getElem? (i := 5) rfl
theorem pl_4_10 (cs : Nat → ClassId) (z : Nat) : (adL z (4, 10), enc cs (adL z) sg0 (4, 10)) ∈ wAll cs z := List.mem_of_getElem? (i := 6) rfl
theorem pl_4_11 (cs : Nat → ClassId) (z : Nat) : (adL z (4, 11), enc cs (adL z) sg0 (4, 11)) ∈ wAll cs z := List.mem_of_getElem? (i := 7) rfl
theorem pl_4_12 (cs : Nat → ClassId) (z : Nat) : (adL z (4, 12), enc cs (adL z) sg0 (4, 12)) ∈ wAll cs z := List.mem_of_getElem? (i := 8) rfl
theorem pl_4_13 (cs : Nat → ClassId) (z : Nat) : (adL z (4, 13), enc cs (adL z) sg0 (4, 13)) ∈ wAll cs z := List.mem_of_getElem? (i := 9) rfl
theorem pl_4_14 (cs : Nat → ClassId) (z : Nat) : (adL z (4, 14), enc cs (adL z) sg0 (4, 14)) ∈ wAll cs z := List.mem_of_getElem? (i := 10) rfl
theorem pl_4_16 (cs : Nat → ClassId) (z : Nat) : (adL z (4, 16), enc cs (adL z) sg0 (4, 16)) ∈ wAll cs z := List.mem_of_getElem? (i := 11) rfl
theorem pl_4_17 (cs : Nat → ClassId) (z : Nat) : (adL z (4, 17), enc cs (adL z) sg0 (4, 17)) ∈ wAll cs z := List.mem_of_getElem? (i := 12) rfl
theorem pl_4_18 (cs : Nat → ClassId) (z : Nat) : (adL z (4, 18), enc cs (adL z) sg0 (4, 18)) ∈ wAll cs z := List.mem_of_getElem? (i := 13) rfl
theorem pl_4_19 (cs : Nat → ClassId) (z : Nat) : (adL z (4, 19), enc cs (adL z) sg0 (4, 19)) ∈ wAll cs z := List.mem_of_getElem? (i := 14) rfl
theorem pl_4_20 (cs : Nat → ClassId) (z : Nat) : (adL z (4, 20), enc cs (adL z) sg0 (4, 20)) ∈ wAll cs z := List.mem_of_getElem? (i := 15) rfl
theorem pl_5_0 (cs : Nat → ClassId) (z : Nat) : (adL z (5, 0), enc cs (adL z) sg0 (5, 0)) ∈ wAll cs z := List.mem_of_getElem? (i := 1) rfl
theorem pl_5_1 (cs : Nat → ClassId) (z : Nat) : (adL z (5, 1), enc cs (adL z) sg0 (5, 1)) ∈ wAll cs z := List.mem_of_getElem? (i := 0) rfl
def idsL : List Ix := [(0, 0), (0, 2), (0, 3), (0, 4), (0, 5), (1, 0), (1, 1), (1, 2), (1, 3), (1, 4), (1, 5), (1, 6), (1, 7), (1, 8), (1, 9), (1, 10), (1, 11), (1, 12), (1, 13), (1, 14), (1, 15), (1, 16), (1, 17), (1, 18), (1, 19), (1, 20), (1, 21), (1, 22), (1, 23), (2, 0), (2, 1), (2, 2), (2, 3), (2, 4), (2, 5), (2, 6), (2, 7), (3, 0), (3, 1), (3, 2), (3, 3), (3, 4), (3, 5), (3, 6), (3, 7), (6, 0), (6, 1), (6, 2), (6, 3), (6, 4), (6, 5), (6, 6), (6, 7), (7, 0), (7, 1), (7, 2), (7, 3), (7, 4), (7, 5), (7, 6), (7, 7), (4, 0), (4, 4), (4, 5), (4, 6), (4, 10), (4, 11), (4, 12), (4, 13), (4, 14), (4, 16), (4, 17), (4, 18), (4, 19), (4, 20), (5, 0), (5, 1)]
theorem idsL_eq : idsA = idsL := by decide +kernel
theorem pl_all (cs : Nat → ClassId) (z : Nat) : ∀ i ∈ idsL, (adL z i, enc cs (adL z) sg0 i) ∈ wAll cs z := List.forall_mem_cons.mpr ⟨pl_0_0 cs z, List.forall_mem_cons.mpr ⟨pl_0_2 cs z, List.forall_mem_cons.mpr ⟨pl_0_3 cs z, List.forall_mem_cons.mpr ⟨pl_0_4 cs z, List.forall_mem_cons.mpr ⟨pl_0_5 cs z, List.forall_mem_cons.mpr ⟨pl_1_0 cs z, List.forall_mem_cons.mpr ⟨pl_1_1 cs z, List.forall_mem_cons.mpr ⟨pl_1_2 cs z, List.forall_mem_cons.mpr ⟨pl_1_3 cs z, List.forall_mem_cons.mpr ⟨pl_1_4 cs z, List.forall_mem_cons.mpr ⟨pl_1_5 cs z, List.forall_mem_cons.mpr ⟨pl_1_6 cs z, List.forall_mem_cons.mpr ⟨pl_1_7 cs z, List.forall_mem_cons.mpr ⟨pl_1_8 cs z, List.forall_mem_cons.mpr ⟨pl_1_9 cs z, List.forall_mem_cons.mpr ⟨pl_1_10 cs z, List.forall_mem_cons.mpr ⟨pl_1_11 cs z, List.forall_mem_cons.mpr ⟨pl_1_12 cs z, List.forall_mem_cons.mpr ⟨pl_1_13 cs z, List.forall_mem_cons.mpr ⟨pl_1_14 cs z, List.forall_mem_cons.mpr ⟨pl_1_15 cs z, List.forall_mem_cons.mpr ⟨pl_1_16 cs z, List.forall_mem_cons.mpr ⟨pl_1_17 cs z, List.forall_mem_cons.mpr ⟨pl_1_18 cs z, List.forall_mem_cons.mpr ⟨pl_1_19 cs z, List.forall_mem_cons.mpr ⟨pl_1_20 cs z, List.forall_mem_cons.mpr ⟨pl_1_21 cs z, List.forall_mem_cons.mpr ⟨pl_1_22 cs z, List.forall_mem_cons.mpr ⟨pl_1_23 cs z, List.forall_mem_cons.mpr ⟨pl_2_0 cs z, List.forall_mem_cons.mpr ⟨pl_2_1 cs z, List.forall_mem_cons.mpr ⟨pl_2_2 cs z, List.forall_mem_cons.mpr ⟨pl_2_3 cs z, List.forall_mem_cons.mpr ⟨pl_2_4 cs z, List.forall_mem_cons.mpr ⟨pl_2_5 cs z, List.forall_mem_cons.mpr ⟨pl_2_6 cs z, List.forall_mem_cons.mpr ⟨pl_2_7 cs z, List.forall_mem_cons.mpr ⟨pl_3_0 cs z, List.forall_mem_cons.mpr ⟨pl_3_1 cs z, List.forall_mem_cons.mpr ⟨pl_3_2 cs z, List.forall_mem_cons.mpr ⟨pl_3_3 cs z, List.forall_mem_cons.mpr ⟨pl_3_4 cs z, List.forall_mem_cons.mpr ⟨pl_3_5 cs z, List.forall_mem_cons.mpr ⟨pl_3_6 cs z, List.forall_mem_cons.mpr ⟨pl_3_7 cs z, List.forall_mem_cons.mpr ⟨pl_6_0 cs z, List.forall_mem_cons.mpr ⟨pl_6_1 cs z, List.forall_mem_cons.mpr ⟨pl_6_2 cs z, List.forall_mem_cons.mpr ⟨pl_6_3 cs z, List.forall_mem_cons.mpr ⟨pl_6_4 cs z, List.forall_mem_cons.mpr ⟨pl_6_5 cs z, List.forall_mem_cons.mpr ⟨pl_6_6 cs z, List.forall_mem_cons.mpr ⟨pl_6_7 cs z, List.forall_mem_cons.mpr ⟨pl_7_0 cs z, List.forall_mem_cons.mpr ⟨pl_7_1 cs z, List.forall_mem_cons.mpr ⟨pl_7_2 cs z, List.forall_mem_cons.mpr ⟨pl_7_3 cs z, List.forall_mem_cons.mpr ⟨pl_7_4 cs z, List.forall_mem_cons.mpr ⟨pl_7_5 cs z, List.forall_mem_cons.mpr ⟨pl_7_6 cs z, List.forall_mem_cons.mpr ⟨pl_7_7 cs z, List.forall_mem_cons.mpr ⟨pl_4_0 cs z, List.forall_mem_cons.mpr ⟨pl_4_4 cs z, List.forall_mem_cons.mpr ⟨pl_4_5 cs z, List.forall_mem_cons.mpr ⟨pl_4_6 cs z, List.forall_mem_cons.mpr ⟨pl_4_10 cs z, List.forall_mem_cons.mpr ⟨pl_4_11 cs z, List.forall_mem_cons.mpr ⟨pl_4_12 cs z, List.forall_mem_cons.mpr ⟨pl_4_13 cs z, List.forall_mem_cons.mpr ⟨pl_4_14 cs z, List.forall_mem_cons.mpr ⟨pl_4_16 cs z, List.forall_mem_cons.mpr ⟨pl_4_17 cs z, List.forall_mem_cons.mpr ⟨pl_4_18 cs z, List.forall_mem_cons.mpr ⟨pl_4_19 cs z, List.forall_mem_cons.mpr ⟨pl_4_20 cs z, List.forall_mem_cons.mpr ⟨pl_5_0 cs z, List.forall_mem_cons.mpr ⟨pl_5_1 cs z, fun _ h => by cases h⟩⟩⟩⟩⟩⟩⟩⟩⟩⟩⟩⟩⟩⟩⟩⟩⟩⟩⟩⟩⟩⟩⟩⟩⟩⟩⟩⟩⟩⟩⟩⟩⟩⟩⟩⟩⟩⟩⟩⟩⟩⟩⟩⟩⟩⟩⟩⟩⟩⟩⟩⟩⟩⟩⟩⟩⟩⟩⟩⟩⟩⟩⟩⟩⟩⟩⟩⟩⟩⟩⟩⟩⟩⟩⟩⟩⟩
section LAWS
variable {p : Program} {l : Launch} {e : Env} {s : State} {m : MethodId} {args : Array Value} {below : List Frame} {meth : Method} {c : Code} {D : va_G} {cs : Nat → ClassId} {ad : Ix → Nat} {A : Nat → Prop} {Q : State → Prop} {b L : Nat} {xs : Nat → Int32}
set_option maxHeartbeats 4000000 in
set_option maxRecDepth 100000 in
/-- one call of the script -/
theorem law_one (Z : LAt l p s m args meth c D cs ad A b L xs) {σ : Mem} {i : Int} {k n : Nat} (S : SIM σ) (hi : 0 ≤ i ∧ i + 4 ≤ L) (hk : k + 8 ≤ 601024 ∧ n + 48 ≤ 7293034) (kk : ∀ υ : Mem, SIM υ → LW p l e s m args below meth c D cs ad A Q (k + 8) (n + 48) υ 1532 (loL ad b i none none) []) : LW p l e s m args below meth c D cs ad A Q k n σ 37 (loL ad b i none none) [] := by
  have Z0 := Z
  obtain ⟨X, K, hZ, hA, hX, hbl, hbA, hL, hl⟩ := Z
  have k0 : ∀ υ : Mem, SIM υ → LW p l e s m args below meth c D cs ad A Q k n υ 1532 (loL ad b i none none) [] := fun υ h => Wx.widen (by omega) (by omega) (kk υ h)
  refine zr_aloadn X dL_law_37 rfl ?_
  refine zr_iload X dL_law_38 rfl ?_
  refine zr_sld X hX hbl hbA ⟨by omega, by omega⟩ (by omega) dL_law_40 ?_
  refine zr_bipush X dL_law_41 rfl ?_
  obtain ⟨v, hv, hv0⟩ := and31 (iI ((xs i.toNat).toInt))
  refine zr_iand X dL_law_43 hv ?_
  have hc : v = 0 ∨ v = 1 ∨ v = 2 ∨ v = 3 ∨ v = 4 ∨ v = 5 ∨ v = 6 ∨ v = 7 ∨ v = 8 ∨ v = 9 ∨ v = 10 ∨ v = 11 ∨ v = 12 ∨ v = 13 ∨ v = 14 ∨ v = 15 ∨ v = 16 ∨ v = 17 ∨ v = 18 ∨ v = 19 ∨ v = 20 ∨ v = 21 ∨ v = 22 ∨ v = 23 ∨ v = 24 ∨ v = 25 ∨ 26 ≤ v := by omega
  rcases hc with rfl | rfl | rfl | rfl | rfl | rfl | rfl | rfl | rfl | rfl | rfl | rfl | rfl | rfl | rfl | rfl | rfl | rfl | rfl | rfl | rfl | rfl | rfl | rfl | rfl | rfl | hc
  · exact zr_tabIn X 164 dL_law_44 ⟨by omega, by omega⟩ ⟨by omega, by omega⟩ rfl (by decide) (law_addNode Z0 S hi hk kk)
  · exact zr_tabIn X 208 dL_law_44 ⟨by omega, by omega⟩ ⟨by omega, by omega⟩ rfl (by decide) (law_addArc Z0 S hi hk kk)
  · exact zr_tabIn X 288 dL_law_44 ⟨by omega, by omega⟩ ⟨by omega, by omega⟩ rfl (by decide) (law_setCapacity Z0 S hi hk kk)
  · exact zr_tabIn X 356 dL_law_44 ⟨by omega, by omega⟩ ⟨by omega, by omega⟩ rfl (by decide) (law_scale Z0 S hi hk kk)
  · exact zr_tabIn X 434 dL_law_44 ⟨by omega, by omega⟩ ⟨by omega, by omega⟩ rfl (by decide) (law_setEnds Z0 S hi hk kk)
  · exact zr_tabIn X 509 dL_law_44 ⟨by omega, by omega⟩ ⟨by omega, by omega⟩ rfl (by decide) (law_nodeCount Z0 S hi hk k0)
  · exact zr_tabIn X 522 dL_law_44 ⟨by omega, by omega⟩ ⟨by omega, by omega⟩ rfl (by decide) (law_arcCount Z0 S hi hk k0)
  · exact zr_tabIn X 535 dL_law_44 ⟨by omega, by omega⟩ ⟨by omega, by omega⟩ rfl (by decide) (law_capacity Z0 S hi hk kk)
  · exact zr_tabIn X 591 dL_law_44 ⟨by omega, by omega⟩ ⟨by omega, by omega⟩ rfl (by decide) (law_maximum Z0 S hi hk kk)
  · exact zr_tabIn X 635 dL_law_44 ⟨by omega, by omega⟩ ⟨by omega, by omega⟩ rfl (by decide) (law_maximumWith Z0 S hi hk kk)
  · exact zr_tabIn X 703 dL_law_44 ⟨by omega, by omega⟩ ⟨by omega, by omega⟩ rfl (by decide) (law_maximumWithout Z0 S hi hk kk)
  · exact zr_tabIn X 759 dL_law_44 ⟨by omega, by omega⟩ ⟨by omega, by omega⟩ rfl (by decide) (law_maximumBetween Z0 S hi hk kk)
  · exact zr_tabIn X 827 dL_law_44 ⟨by omega, by omega⟩ ⟨by omega, by omega⟩ rfl (by decide) (law_utilization Z0 S hi hk kk)
  · exact zr_tabIn X 892 dL_law_44 ⟨by omega, by omega⟩ ⟨by omega, by omega⟩ rfl (by decide) (law_leastFlow Z0 S hi hk kk)
  · exact zr_tabIn X 948 dL_law_44 ⟨by omega, by omega⟩ ⟨by omega, by omega⟩ rfl (by decide) (law_greatestFlow Z0 S hi hk kk)
  · exact zr_tabIn X 1004 dL_law_44 ⟨by omega, by omega⟩ ⟨by omega, by omega⟩ rfl (by decide) (law_cutCapacity Z0 S hi hk kk)
  · exact zr_tabIn X 1060 dL_law_44 ⟨by omega, by omega⟩ ⟨by omega, by omega⟩ rfl (by decide) (law_smallestCut Z0 S hi hk kk)
  · exact zr_tabIn X 1104 dL_law_44 ⟨by omega, by omega⟩ ⟨by omega, by omega⟩ rfl (by decide) (law_greatestCut Z0 S hi hk kk)
  · exact zr_tabIn X 1148 dL_law_44 ⟨by omega, by omega⟩ ⟨by omega, by omega⟩ rfl (by decide) (law_findCuts Z0 S hi hk kk)
  · exact zr_tabIn X 1192 dL_law_44 ⟨by omega, by omega⟩ ⟨by omega, by omega⟩ rfl (by decide) (law_cut Z0 S hi hk kk)
  · exact zr_tabIn X 1248 dL_law_44 ⟨by omega, by omega⟩ ⟨by omega, by omega⟩ rfl (by decide) (law_isBottleneck Z0 S hi hk kk)
  · exact zr_tabIn X 1311 dL_law_44 ⟨by omega, by omega⟩ ⟨by omega, by omega⟩ rfl (by decide) (law_isLimiting Z0 S hi hk kk)
  · exact zr_tabIn X 1374 dL_law_44 ⟨by omega, by omega⟩ ⟨by omega, by omega⟩ rfl (by decide) (law_headroom Z0 S hi hk kk)
  · exact zr_tabIn X 1430 dL_law_44 ⟨by omega, by omega⟩ ⟨by omega, by omega⟩ rfl (by decide) (law_push Z0 S hi hk kk)
  · exact zr_tabIn X 1474 dL_law_44 ⟨by omega, by omega⟩ ⟨by omega, by omega⟩ rfl (by decide) (law_pop Z0 S hi hk kk)
  · exact zr_tabIn X 1518 dL_law_44 ⟨by omega, by omega⟩ ⟨by omega, by omega⟩ rfl (by decide) (law_digest Z0 S hi hk k0)
  · exact zr_tabOut X 1532 dL_law_44 ⟨by omega, by omega⟩ (Or.inr (by omega)) (by decide) (k0 _ S)
set_option maxHeartbeats 4000000 in
set_option maxRecDepth 100000 in
theorem law_loop (Z : LAt l p s m args meth c D cs ad A b L xs) (fin : ∀ (k n : Nat) (σ : Mem) (i : Int), k ≤ 601024 → n ≤ 7293034 → LW p l e s m args below meth c D cs ad A Q k n σ 1538 (loL ad b i none none) []) : ∀ (t j : Nat) (σ : Mem), SIM σ → 4 * j ≤ L → L - 4 * j < t → LW p l e s m args below meth c D cs ad A Q (77 + 8 * j) (5088 + 48 * j) σ 28 (loL ad b (4 * (j : Int)) none none) [] := by
  have Z0 := Z
  obtain ⟨X, K, hZ, hA, hX, hbl, hbA, hL, hl⟩ := Z
  intro t
  induction t with
  | zero => exact fun j σ _ _ h => absurd h (Nat.not_lt_zero _)
  | succ t ih =>
    intro j σ S hj ht
    refine zr_iload X dL_law_28 rfl ?_
    refine zr_aloadn X dL_law_30 rfl ?_
    refine zr_slen X hX hbl hbA dL_law_31 ?_
    refine zr_iconst X dL_law_32 ?_
    refine zr_isub X dL_law_33 ?_
    refine zr_icmp_gt X 1538 dL_law_34 (by decide) ⟨by omega, by omega⟩ ⟨by omega, by omega⟩ (fun g => ?_) (fun g => ?_)
    · exact fin _ _ _ _ (by omega) (by omega)
    · refine law_one Z0 S ⟨by omega, by omega⟩ ⟨by omega, by omega⟩ (fun υ S1 => ?_)
      refine zr_iinc X dL_law_1532 rfl (by decide) rfl ?_
      refine zr_goto X 28 dL_law_1535 (by decide) ?_
      have := ih (j + 1) υ S1 (by omega) (by omega)
      rw [show 77 + 8 * (j + 1) = 77 + 8 * j + 8 by omega, show 5088 + 48 * (j + 1) = 5088 + 48 * j + 48 by omega, show 4 * ((j + 1 : Nat) : Int) = 4 * (j : Int) + 4 by omega] at this
      exact this
end LAWS
theorem TB_lw {w : Cond} (h : w ∈ TB) : w ∈ lw_tbl := (List.mem_filter.mp h).1
theorem NW_lw {w : Cond} (h : w ∈ NW) : w ∈ lw_tbl := (List.mem_filter.mp h).1
theorem ex_ref {t : Term} {cl : String} {args : Array Value} {s : State} (h : (Cond.exactly t cl).before args s = true) : ∃ a : Addr, t.eval args s none [] s = some (.ref a) := by
  simp only [Cond.before, Cond.holds, Cond.value] at h
  cases he : t.eval args s none [] s with
  | none => rw [he] at h; simp at h
  | some v =>
    rw [he] at h
    cases v with
    | ref a => exact ⟨a, rfl⟩
    | null => cases hf : s.vm.findClass cl <;> rw [hf] at h <;> simp at h
    | _ => simp at h
theorem strs_in {q : Nat × String} (h : q ∈ strs) : Cond.stringRef "FlowNetwork" q.1 q.2 ∈ lw_tbl := by
  obtain ⟨w, hw, he⟩ := List.mem_filterMap.mp h
  revert he
  cases w <;> intro he <;> first | (cases he; done) | skip
  split at he
  · rename_i k t hq
    cases he
    cases hq
    exact hw
  · cases he
theorem strs_ex : ∀ q ∈ strs, Cond.exactly (.string "FlowNetwork" q.1) "java/lang/String" ∈ flatC (Cond.and given_1 narrow_1) := by decide +kernel
theorem xnot_ex : ∀ q ∈ xnot, Cond.not (.castable q.1 q.2) ∈ flatC (Cond.and given_1 narrow_1) := by decide +kernel
/-- arrays of a kind -/
theorem arr_of {ty : FieldType} {args : Array Value} {s : State} (h : (Cond.arrayClass ty).before args s = true) : ∃ cA : ClassId, ArrOfT s cA ty ∧ s.vm.findClass ("[" ++ ty.toString) = some cA := by
  obtain ⟨cA, k, comp, h1, h2, h3⟩ := Cond.arrayClass_spec h
  exact ⟨cA, fun n z => ⟨fun k h => (by cases h), k, h2, comp, h3⟩, h1⟩
theorem arr_ofA {args : Array Value} {s : State} (h : (Cond.arrayOver (.array .int)).before args s = true) : ∃ cA : ClassId, ArrOfT s cA (.array .int) ∧ s.vm.findClass ("[" ++ (FieldType.array .int).toString) = some cA := by
  obtain ⟨comp, cA, k, h0, h2, h3, h1⟩ := Cond.arrayOver_specA h
  exact ⟨cA, fun n z => ⟨fun k h => (by cases h), k, h2, comp, h3⟩, h1⟩

theorem kn_all {args : Array Value} {s : State} (hTB : ∀ w ∈ TB, w.before args s = true) (hov : (Cond.arrayOver (.array .int)).before args s = true) : ∃ (D : va_G) (cs : Nat → ClassId), va_K D vwCl (tysL cs) s := by
  obtain ⟨c0, i0, h0⟩ := u_known (C := RX0) (T := TX0) (N := 3) hTB ti_0 (hTB _ tw_183)
  obtain ⟨c1, i1, h1⟩ := u_known (C := RX1) (T := TX1) (N := 3) hTB ti_1 (hTB _ tw_80)
  obtain ⟨c2, i2, h2⟩ := u_known (C := RX2) (T := TX2) (N := 4) hTB ti_2 (hTB _ tw_159)
  obtain ⟨c3, i3, h3⟩ := u_known (C := RX3) (T := TX3) (N := 6) hTB ti_3 (hTB _ tw_74)
  obtain ⟨c4, i4, h4⟩ := u_known (C := RX4) (T := TX4) (N := 6) hTB ti_4 (hTB _ tw_30)
  obtain ⟨c5, i5, h5⟩ := u_known (C := RX5) (T := TX5) (N := 7) hTB ti_5 (hTB _ tw_101)
  obtain ⟨c6, i6, h6⟩ := u_known (C := RX6) (T := TX6) (N := 5) hTB ti_6 (hTB _ tw_22)
  obtain ⟨c7, i7, h7⟩ := u_known (C := RX7) (T := TX7) (N := 20) hTB ti_7 (hTB _ tw_695)
  obtain ⟨a0, g0, k0⟩ := arr_of (hTB _ tw_72)
  obtain ⟨a1, g1, k1⟩ := arr_ofA hov
  obtain ⟨a2, g2, k2⟩ := arr_of (hTB _ tw_974)
  obtain ⟨a3, g3, k3⟩ := arr_of (hTB _ tw_975)
  refine ⟨(fun k => match k with | 0 => c0 | 1 => c1 | 2 => c2 | 3 => c3 | 4 => c4 | 5 => c5 | 6 => c6 | _ => c7, fun k => match k with | 0 => i0 | 1 => i1 | 2 => i2 | 3 => i3 | 4 => i4 | 5 => i5 | 6 => i6 | _ => i7), fun k => match k with | 0 => a0 | 1 => a1 | 2 => a2 | _ => a3, ?_, ?_⟩
  · intro k q hq
    match k, hq with
    | 0, hq => cases hq; exact h0
    | 1, hq => cases hq; exact h1
    | 2, hq => cases hq; exact h2
    | 3, hq => cases hq; exact h3
    | 4, hq => cases hq; exact h4
    | 5, hq => cases hq; exact h5
    | 6, hq => cases hq; exact h6
    | 7, hq => cases hq; exact h7
    | k + 8, hq => simp [vwCl] at hq
  · intro k q hq
    match k, hq with
    | 0, hq => cases hq; exact ⟨g0, k0⟩
    | 1, hq => cases hq; exact ⟨g1, k1⟩
    | 2, hq => cases hq; exact ⟨g2, k2⟩
    | 3, hq => cases hq; exact ⟨g3, k3⟩
    | k + 4, hq => simp [tysL] at hq
set_option maxHeartbeats 8000000 in
set_option maxRecDepth 100000 in
/-- from the entry, for every script of at most 2048 ints, the law comes to its end with true -/
theorem whole_start {p : Program} {e : Env} {s : State} {m : MethodId} {below : List Frame} {meth : Method} {c : Code} (l : Launch) (hflags : l.flags = flags0) {b L : Nat} {xs : Nat → Int32} (hL : L ≤ 2048) (C0 : lw_At p s m meth c b L xs) : W p l e room_1 s m #[Value.ref b] below meth c s.heap [] 0 0 (lw_Z below #[Value.ref b] s) (entryFrame m ([Value.ref b] : List Value).toArray 9) := by
  obtain ⟨hx, hb, hr, hml, hown, hts, hX, hbl, hlocks, hgv⟩ := id C0
  have hs := flat_of_before _ hgv
  have hl : l.stackTraces = false := by
    unfold Launch.stackTraces
    rw [hflags]
    decide +kernel
  have hTB : ∀ w ∈ TB, w.before #[Value.ref b] s = true := fun w hw => hts w (TB_lw hw)
  have hNx : Nx s := by
    intro w hw
    have h1 := hts w (NW_lw hw)
    have h2 : isNest w = true := (List.mem_filter.mp hw).2
    cases w <;> first | exact va_Nw.of rfl h1 | cases h2
  have hSx : Sx s := ⟨fun q hq => (ex_ref (hs _ (strs_ex q hq))).elim fun a ha => ⟨a, vk_R.of (hts _ (strs_in hq)) ha⟩, fun q hq => va_Nc.of (hs _ (xnot_ex q hq))⟩
  have hov : (Cond.arrayOver (.array .int)).before #[Value.ref b] s = true := hts _ (by decide +kernel)
  obtain ⟨D, cs, hK⟩ := kn_all hTB hov
  have hA : ∀ q : Nat, s.heap.size ≤ q → (fun q : Nat => s.heap.size ≤ q) q := fun _ h => h
  have hZ : Zx (fun q : Nat => s.heap.size ≤ q) s := ⟨vx_Zqof (hts _ (by decide +kernel)) (hts _ (by decide +kernel)) (hs _ (by decide +kernel)) (fun a h1 h2 => Nat.not_le.mpr h1 h2), vx_Zqof (hts _ (by decide +kernel)) (hts _ (by decide +kernel)) (hs _ (by decide +kernel)) (fun a h1 h2 => Nat.not_le.mpr h1 h2)⟩
  have X : Cx p s m #[Value.ref b] meth c cL_law 9 "FlowNetworkLaw" := ⟨hx, hb, hml, hown, hTB, hlocks⟩
  have K0 : Kn D cs (fun q : Nat => s.heap.size ≤ q) s := ⟨hK, hA, hNx, hSx, va_AOA.of hov⟩
  obtain ⟨z, hz⟩ : ∃ z, z = s.heap.size := ⟨_, rfl⟩
  have Z : LAt l p s m #[Value.ref b] meth c D cs (adL z) (fun q : Nat => s.heap.size ≤ q) b L xs := ⟨X, ⟨hK, adL_ap z, fun i hi => by have := adL_le z i hi; omega, idsA_nd, hNx, hSx⟩, hZ, hA, hX, hbl, Nat.not_le.mpr hbl, hL, hl⟩
  have fin : ∀ (k n : Nat) (σ : Mem) (i : Int), k ≤ 601024 → n ≤ 7293034 → LW p l e s m #[Value.ref b] below meth c D cs (adL z) (fun q : Nat => s.heap.size ≤ q) (lw_Z below #[Value.ref b] s) k n σ 1538 (loL (adL z) b i none none) [] := by
    intro k n σ i hk hn
    refine zr_iconst X dL_law_1538 ?_
    intro H locs ls hP hS hl
    exact va_forget hS.2.2 (W.widen hk hn (lw_ret (d0 := s.drawn) (Drawn.sameBut.refl s.drawn lw_cs) hx hb hr hlocks dL_law_1539))
  have hWx : LW p l e s m #[Value.ref b] below meth c D cs (adL z) (fun q : Nat => s.heap.size ≤ q) (lw_Z below #[Value.ref b] s) 77 5088 sg0 25 [some (.ref b), some (.ref (adL z (3, 7))), some (.ref (adL z (4, 0))), some (.ref (adL z (5, 0))), some (.ref (adL z (5, 1))), none, none, none, none] [] := by
    refine zr_iconst X dL_law_25 ?_
    refine zr_istore X dL_law_26 (by decide) rfl ?_
    exact law_loop Z fin (L + 1) 0 sg0 SIM_0 (by omega) (by omega)
  rw [lg_entry_eq]
  have hWn : Wn p l e room_1 s m #[Value.ref b] below meth c D (fun q : Nat => s.heap.size ≤ q) s.heap 9 (lw_Z below #[Value.ref b] s) 0 0 z [] 0 (entryLo [Value.ref b] 9) [] := by
    refine wn_newO X K0 (C := RX6) (T := TX6) (N := 5) (ci := 6) (fs := [.null, .null, .null, .null, .null]) rfl ti_6 tyX6 tyX6_ok tw_21 tw_22 tw_1 (fun j hj => by rcases (show j = 0 ∨ j = 1 ∨ j = 2 ∨ j = 3 ∨ j = 4 by omega) with rfl | rfl | rfl | rfl | rfl <;> rfl) ⟨Nat.le_of_ble_eq_true rfl, Nat.le_of_ble_eq_true rfl⟩ dL_law_0 ?_
    refine wn_dup X dL_law_3 rfl ?_
    refine wn_callI X K0 (h0 := z) (As := []) (st := [.ref z]) (c_Fn_new l D cs z (z + 1) (by omega)) rfl ⟨tw_23, tw_24, tw_1, tw_25⟩ dc_X6_init rfl rfl (fun x hx => by cases hx) (by show s.heap.size ≤ z; omega) (fun q hq => by show s.heap.size ≤ q; omega) (Nat.le_of_ble_eq_true rfl) (by decide) dL_law_4 ?_
    refine wn_astoren X dL_law_7 (by decide) rfl ?_
    refine wn_newO X K0 (C := RX7) (T := TX7) (N := 20) (ci := 7) (fs := [jI 0, jI 0, jI 0, .null, .null, .null, jI 0, jI 0, jI 0, .null, .null, .null, .null, .null, jI 0, .null, .null, .null, .null, .null]) rfl ti_7 tyX7 tyX7_ok tw_694 tw_695 tw_8 (fun j hj => by rcases (show j = 0 ∨ j = 1 ∨ j = 2 ∨ j = 3 ∨ j = 4 ∨ j = 5 ∨ j = 6 ∨ j = 7 ∨ j = 8 ∨ j = 9 ∨ j = 10 ∨ j = 11 ∨ j = 12 ∨ j = 13 ∨ j = 14 ∨ j = 15 ∨ j = 16 ∨ j = 17 ∨ j = 18 ∨ j = 19 by omega) with rfl | rfl | rfl | rfl | rfl | rfl | rfl | rfl | rfl | rfl | rfl | rfl | rfl | rfl | rfl | rfl | rfl | rfl | rfl | rfl <;> rfl) ⟨Nat.le_of_ble_eq_true rfl, Nat.le_of_ble_eq_true rfl⟩ dL_law_8 ?_
    refine wn_dup X dL_law_11 rfl ?_
    refine wn_callI X K0 (h0 := z + 1 + 60) (As := []) (st := [.ref (z + 1 + 60)]) (c_Mod_new l D cs (z + 1 + 60) (z + 1 + 60 + 1) (by omega)) rfl ⟨tw_696, tw_697, tw_8, tw_698⟩ dc_X7_init rfl rfl (fun x hx => by
      rw [List.append_nil] at hx
      have := wIn_Fn cs z x hx
      omega) (by show s.heap.size ≤ z + 1 + 60; omega) (fun q hq => by show s.heap.size ≤ q; omega) (Nat.le_of_ble_eq_true rfl) (by decide) dL_law_12 ?_
    refine wn_astoren X dL_law_15 (by decide) rfl ?_
    refine wn_iconst X dL_law_16 ?_
    refine wn_newJ X K0 (N := 1) rfl (by decide) ⟨Nat.le_of_ble_eq_true rfl, Nat.le_of_ble_eq_true rfl⟩ dL_law_17 ?_
    refine wn_astoren X dL_law_19 (by decide) rfl ?_
    refine wn_iconst X dL_law_20 ?_
    refine wn_newD X K0 (N := 1) rfl (by decide) ⟨Nat.le_of_ble_eq_true rfl, Nat.le_of_ble_eq_true rfl⟩ dL_law_21 ?_
    refine wn_astore X dL_law_23 (by decide) rfl ?_
    intro H locs ls hw hsz hS hl
    refine hWx H locs ls (fun i hi => hw _ ?_) hS hl
    rw [idsL_eq] at hi
    exact pl_all cs z i hi
  exact hWn s.heap [] _ (fun x hx => by cases hx) hz.symm va_S.rf (lo_entry _ (Nat.le_of_ble_eq_true rfl))
