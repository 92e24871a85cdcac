/-! THE LAW, FROM ITS ENTRY -/
def adN (z k : Nat) : Nat := match k with
  | 0 => z + 1
  | 2 => z + 2
  | 3 => z + 3
  | 4 => z + 4
  | _ => z + 5
def adC (z k : Nat) : Nat := match k with
  | 0 => z + 46
  | 1 => z + 56
  | 2 => z + 57
  | 3 => z + 47
  | 4 => z + 58
  | 5 => z + 59
  | 6 => z + 60
  | _ => z

def adM (z k : Nat) : Nat := z + 61 + k
/-- where the cells stand, from the law's first new one on -/
def adL (z : Nat) : Ix → Nat
  | (0, k) => adN z k
  | (1, v) => z + 6 + v
  | (2, v) => z + 48 + v
  | (3, k) => adC z k
  | (4, k) => adM z k
  | (5, k) => z + 75 + k
  | (6, k) => z + 30 + k
  | (g, k) => z + 38 + k
theorem adL_z (z : Nat) : ∀ i ∈ idsA, adL z i = z + adL 0 i := by
  intro i hi
  have hi : i ∈ ([] : List Ix) ∨ i ∈ idsA := Or.inr hi
  match i with
  | (0, k) => show adN z k = z + adN 0 k; unfold adN; split <;> omega
  | (1, v) => show z + 6 + v = z + (0 + 6 + v); omega
  | (2, v) => show z + 48 + v = z + (0 + 48 + v); omega
  | (3, k) => show adC z k = z + adC 0 k; unfold adC; split <;> omega
  | (4, k) => show z + 61 + k = z + (0 + 61 + k); omega
  | (5, k) => show z + 75 + k = z + (0 + 75 + k); omega
  | (6, k) => show z + 30 + k = z + (0 + 30 + k); omega
  | (g + 7, k) => show z + 38 + k = z + (0 + 38 + k); omega

theorem adL_ap (z : Nat) : Apart idsA (adL z) := by
  have h : ∀ i ∈ idsA, ∀ j ∈ idsA, adL 0 i = adL 0 j → i = j := by decide +kernel
  intro i hi j hj e
  rw [adL_z z i hi, adL_z z j hj] at e
  exact h i hi j hj (by omega)
theorem adL_le (z : Nat) : ∀ i ∈ idsA, z ≤ adL z i := fun i hi => by rw [adL_z z i hi]; omega

def sg0 : Mem := fun q _ => match q with
  | (6, 8) => -1
  | (6, 9) => -1
  | (7, 8) => -1
  | (7, 9) => -1
  | _ => 0
theorem bN_0 : bN sg0 0 := by
  have n0 : sg0 (0, 0) 0 = 0 := rfl
  have m0 : sg0 (0, 1) 0 = 0 := rfl
  have l0 : sg0 (3, 0) 0 = 0 := rfl
  have c0 : sg0 (3, 4) 0 = 0 := rfl
  refine ⟨⟨⟨⟨⟨⟨by omega, by omega⟩, ⟨by omega, by omega⟩, fun a a0 a1 => by omega⟩, ⟨fun v _ _ => ⟨Int.le_refl 0, Int.le_refl 0⟩, fun v _ _ => rfl, fun v i _ _ i0 i1 => ?_, fun a a0 a1 => by omega⟩, fun a a0 a1 => by omega⟩, Or.inl ⟨rfl, rfl⟩, ⟨0, Int.le_refl 0, fun X => ?_⟩, fun _ a a0 a1 => by omega, Or.inl rfl, fun h => ?_, fun a _ _ => ⟨rfl, rfl⟩⟩, fun a _ _ => ⟨Int.le_refl 0, (show (0 : Int) ≤ 1000000 by decide)⟩, ⟨⟨by omega, by omega⟩, fun i i0 i1 => by omega, fun i i0 i1 => by omega⟩, ⟨by omega, by omega⟩⟩, ⟨rfl, rfl⟩, n0, m0⟩
  · have : sg0 (0, 4) v = 0 := rfl
    omega
  · show net sg0 0 X = _
    unfold net
    rw [m0]
    show (0 : Int) = _
    unfold ind
    split <;> split <;> omega
  · have : sg0 (0 + 6, 10) 0 = 0 := rfl
    omega

theorem wIn_Fn (cs : Nat → ClassId) (q : Nat) : wIn (wFn cs q (q + 1)) q (q + 61) := wIn_cons (b := q + 61) (fun x hx => by
  rcases List.mem_append.mp hx with hx | hx
  · have := wIn_Net cs (q + 1) x hx
    exact ⟨by omega, by omega⟩
  · rcases List.mem_append.mp hx with hx | hx
    · have := wIn_Max cs (q + 1 + 29) (q + 1) x hx
      exact ⟨by omega, by omega⟩
    · rcases List.mem_append.mp hx with hx | hx
      · have := wIn_Max cs (q + 1 + 37) (q + 1) x hx
        exact ⟨by omega, by omega⟩
      · rcases List.mem_append.mp hx with hx | hx
        · have := wIn_Lev cs (q + 1 + 45) x hx
          exact ⟨by omega, by omega⟩
        · have := wIn_Cut cs (q + 1 + 57) x hx
          exact ⟨by omega, by omega⟩) (Nat.le_refl _) (Nat.le_refl _) (by show q < q + 61; omega)

/-- all that the law makes -/
def wAll (cs : Nat → ClassId) (z : Nat) : va_W := (z + 63, .inl (cs 0, 7, .inl (fun _ => iI 0))) :: (z + 62, .inl (cs 0, 7, .inl (fun _ => iI 0))) :: (z + 61, .inl (cs 0, 7, .inl (fun _ => iI 0))) :: (wFn cs z (z + 1) ++ [])

theorem pl_0_0 (cs : Nat → ClassId) (z : Nat) : (adL z (0, 0), enc cs (adL z) sg0 (0, 0)) ∈ wAll cs z := List.mem_of_getElem? (i := 4) rfl
theorem pl_0_2 (cs : Nat → ClassId) (z : Nat) : (adL z (0, 2), enc cs (adL z) sg0 (0, 2)) ∈ wAll cs z := List.mem_of_getElem? (i := 5) rfl
theorem pl_0_3 (cs : Nat → ClassId) (z : Nat) : (adL z (0, 3), enc cs (adL z) sg0 (0, 3)) ∈ wAll cs z := List.mem_of_getElem? (i := 6) rfl
theorem pl_0_4 (cs : Nat → ClassId) (z : Nat) : (adL z (0, 4), enc cs (adL z) sg0 (0, 4)) ∈ wAll cs z := List.mem_of_getElem? (i := 7) rfl
theorem pl_0_5 (cs : Nat → ClassId) (z : Nat) : (adL z (0, 5), enc cs (adL z) sg0 (0, 5)) ∈ wAll cs z := List.mem_of_getElem? (i := 8) rfl
theorem pl_1_0 (cs : Nat → ClassId) (z : Nat) : (adL z (1, 0), enc cs (adL z) sg0 (1, 0)) ∈ wAll cs z := List.mem_of_getElem? (i := 9) rfl
theorem pl_1_1 (cs : Nat → ClassId) (z : Nat) : (adL z (1, 1), enc cs (adL z) sg0 (1, 1)) ∈ wAll cs z := List.mem_of_getElem? (i := 10) rfl
theorem pl_1_2 (cs : Nat → ClassId) (z : Nat) : (adL z (1, 2), enc cs (adL z) sg0 (1, 2)) ∈ wAll cs z := List.mem_of_getElem? (i := 11) rfl
theorem pl_1_3 (cs : Nat → ClassId) (z : Nat) : (adL z (1, 3), enc cs (adL z) sg0 (1, 3)) ∈ wAll cs z := List.mem_of_getElem? (i := 12) rfl
theorem pl_1_4 (cs : Nat → ClassId) (z : Nat) : (adL z (1, 4), enc cs (adL z) sg0 (1, 4)) ∈ wAll cs z := List.mem_of_getElem? (i := 13) rfl
theorem pl_1_5 (cs : Nat → ClassId) (z : Nat) : (adL z (1, 5), enc cs (adL z) sg0 (1, 5)) ∈ wAll cs z := List.mem_of_getElem? (i := 14) rfl
theorem pl_1_6 (cs : Nat → ClassId) (z : Nat) : (adL z (1, 6), enc cs (adL z) sg0 (1, 6)) ∈ wAll cs z := List.mem_of_getElem? (i := 15) rfl
theorem pl_1_7 (cs : Nat → ClassId) (z : Nat) : (adL z (1, 7), enc cs (adL z) sg0 (1, 7)) ∈ wAll cs z := List.mem_of_getElem? (i := 16) rfl
theorem pl_1_8 (cs : Nat → ClassId) (z : Nat) : (adL z (1, 8), enc cs (adL z) sg0 (1, 8)) ∈ wAll cs z := List.mem_of_getElem? (i := 17) rfl
theorem pl_1_9 (cs : Nat → ClassId) (z : Nat) : (adL z (1, 9), enc cs (adL z) sg0 (1, 9)) ∈ wAll cs z := List.mem_of_getElem? (i := 18) rfl
theorem pl_1_10 (cs : Nat → ClassId) (z : Nat) : (adL z (1, 10), enc cs (adL z) sg0 (1, 10)) ∈ wAll cs z := List.mem_of_getElem? (i := 19) rfl
theorem pl_1_11 (cs : Nat → ClassId) (z : Nat) : (adL z (1, 11), enc cs (adL z) sg0 (1, 11)) ∈ wAll cs z := List.mem_of_getElem? (i := 20) rfl
theorem pl_1_12 (cs : Nat → ClassId) (z : Nat) : (adL z (1, 12), enc cs (adL z) sg0 (1, 12)) ∈ wAll cs z := List.mem_of_getElem? (i := 21) rfl
theorem pl_1_13 (cs : Nat → ClassId) (z : Nat) : (adL z (1, 13), enc cs (adL z) sg0 (1, 13)) ∈ wAll cs z := List.mem_of_getElem? (i := 22) rfl
theorem pl_1_14 (cs : Nat → ClassId) (z : Nat) : (adL z (1, 14), enc cs (adL z) sg0 (1, 14)) ∈ wAll cs z := List.mem_of_getElem? (i := 23) rfl
theorem pl_1_15 (cs : Nat → ClassId) (z : Nat) : (adL z (1, 15), enc cs (adL z) sg0 (1, 15)) ∈ wAll cs z := List.mem_of_getElem? (i := 24) rfl
theorem pl_1_16 (cs : Nat → ClassId) (z : Nat) : (adL z (1, 16), enc cs (adL z) sg0 (1, 16)) ∈ wAll cs z := List.mem_of_getElem? (i := 25) rfl
theorem pl_1_17 (cs : Nat → ClassId) (z : Nat) : (adL z (1, 17), enc cs (adL z) sg0 (1, 17)) ∈ wAll cs z := List.mem_of_getElem? (i := 26) rfl
theorem pl_1_18 (cs : Nat → ClassId) (z : Nat) : (adL z (1, 18), enc cs (adL z) sg0 (1, 18)) ∈ wAll cs z := List.mem_of_getElem? (i := 27) rfl
theorem pl_1_19 (cs : Nat → ClassId) (z : Nat) : (adL z (1, 19), enc cs (adL z) sg0 (1, 19)) ∈ wAll cs z := List.mem_of_getElem? (i := 28) rfl
theorem pl_1_20 (cs : Nat → ClassId) (z : Nat) : (adL z (1, 20), enc cs (adL z) sg0 (1, 20)) ∈ wAll cs z := List.mem_of_getElem? (i := 29) rfl
theorem pl_1_21 (cs : Nat → ClassId) (z : Nat) : (adL z (1, 21), enc cs (adL z) sg0 (1, 21)) ∈ wAll cs z := List.mem_of_getElem? (i := 30) rfl
theorem pl_1_22 (cs : Nat → ClassId) (z : Nat) : (adL z (1, 22), enc cs (adL z) sg0 (1, 22)) ∈ wAll cs z := List.mem_of_getElem? (i := 31) rfl
theorem pl_1_23 (cs : Nat → ClassId) (z : Nat) : (adL z (1, 23), enc cs (adL z) sg0 (1, 23)) ∈ wAll cs z := List.mem_of_getElem? (i := 32) rfl
theorem pl_2_0 (cs : Nat → ClassId) (z : Nat) : (adL z (2, 0), enc cs (adL z) sg0 (2, 0)) ∈ wAll cs z := List.mem_of_getElem? (i := 53) rfl
theorem pl_2_1 (cs : Nat → ClassId) (z : Nat) : (adL z (2, 1), enc cs (adL z) sg0 (2, 1)) ∈ wAll cs z := List.mem_of_getElem? (i := 54) rfl
theorem pl_2_2 (cs : Nat → ClassId) (z : Nat) : (adL z (2, 2), enc cs (adL z) sg0 (2, 2)) ∈ wAll cs z := List.mem_of_getElem? (i := 55) rfl
theorem pl_2_3 (cs : Nat → ClassId) (z : Nat) : (adL z (2, 3), enc cs (adL z) sg0 (2, 3)) ∈ wAll cs z := List.mem_of_getElem? (i := 56) rfl
theorem pl_2_4 (cs : Nat → ClassId) (z : Nat) : (adL z (2, 4), enc cs (adL z) sg0 (2, 4)) ∈ wAll cs z := List.mem_of_getElem? (i := 57) rfl
theorem pl_2_5 (cs : Nat → ClassId) (z : Nat) : (adL z (2, 5), enc cs (adL z) sg0 (2, 5)) ∈ wAll cs z := List.mem_of_getElem? (i := 58) rfl
theorem pl_2_6 (cs : Nat → ClassId) (z : Nat) : (adL z (2, 6), enc cs (adL z) sg0 (2, 6)) ∈ wAll cs z := List.mem_of_getElem? (i := 59) rfl
theorem pl_2_7 (cs : Nat → ClassId) (z : Nat) : (adL z (2, 7), enc cs (adL z) sg0 (2, 7)) ∈ wAll cs z := List.mem_of_getElem? (i := 60) rfl
theorem pl_3_0 (cs : Nat → ClassId) (z : Nat) : (adL z (3, 0), enc cs (adL z) sg0 (3, 0)) ∈ wAll cs z := List.mem_of_getElem? (i := 49) rfl
theorem pl_3_1 (cs : Nat → ClassId) (z : Nat) : (adL z (3, 1), enc cs (adL z) sg0 (3, 1)) ∈ wAll cs z := List.mem_of_getElem? (i := 50) rfl
theorem pl_3_2 (cs : Nat → ClassId) (z : Nat) : (adL z (3, 2), enc cs (adL z) sg0 (3, 2)) ∈ wAll cs z := List.mem_of_getElem? (i := 51) rfl
theorem pl_3_3 (cs : Nat → ClassId) (z : Nat) : (adL z (3, 3), enc cs (adL z) sg0 (3, 3)) ∈ wAll cs z := List.mem_of_getElem? (i := 52) rfl
theorem pl_3_4 (cs : Nat → ClassId) (z : Nat) : (adL z (3, 4), enc cs (adL z) sg0 (3, 4)) ∈ wAll cs z := List.mem_of_getElem? (i := 61) rfl
theorem pl_3_5 (cs : Nat → ClassId) (z : Nat) : (adL z (3, 5), enc cs (adL z) sg0 (3, 5)) ∈ wAll cs z := List.mem_of_getElem? (i := 62) rfl
theorem pl_3_6 (cs : Nat → ClassId) (z : Nat) : (adL z (3, 6), enc cs (adL z) sg0 (3, 6)) ∈ wAll cs z := List.mem_of_getElem? (i := 63) rfl
theorem pl_3_7 (cs : Nat → ClassId) (z : Nat) : (adL z (3, 7), enc cs (adL z) sg0 (3, 7)) ∈ wAll cs z := List.mem_of_getElem? (i := 3) rfl
theorem pl_6_0 (cs : Nat → ClassId) (z : Nat) : (adL z (6, 0), enc cs (adL z) sg0 (6, 0)) ∈ wAll cs z := List.mem_of_getElem? (i := 33) rfl
theorem pl_6_1 (cs : Nat → ClassId) (z : Nat) : (adL z (6, 1), enc cs (adL z) sg0 (6, 1)) ∈ wAll cs z := List.mem_of_getElem? (i := 34) rfl
theorem pl_6_2 (cs : Nat → ClassId) (z : Nat) : (adL z (6, 2), enc cs (adL z) sg0 (6, 2)) ∈ wAll cs z := List.mem_of_getElem? (i := 35) rfl
theorem pl_6_3 (cs : Nat → ClassId) (z : Nat) : (adL z (6, 3), enc cs (adL z) sg0 (6, 3)) ∈ wAll cs z := List.mem_of_getElem? (i := 36) rfl
theorem pl_6_4 (cs : Nat → ClassId) (z : Nat) : (adL z (6, 4), enc cs (adL z) sg0 (6, 4)) ∈ wAll cs z := List.mem_of_getElem? (i := 37) rfl
theorem pl_6_5 (cs : Nat → ClassId) (z : Nat) : (adL z (6, 5), enc cs (adL z) sg0 (6, 5)) ∈ wAll cs z := List.mem_of_getElem? (i := 38) rfl
theorem pl_6_6 (cs : Nat → ClassId) (z : Nat) : (adL z (6, 6), enc cs (adL z) sg0 (6, 6)) ∈ wAll cs z := List.mem_of_getElem? (i := 39) rfl
theorem pl_6_7 (cs : Nat → ClassId) (z : Nat) : (adL z (6, 7), enc cs (adL z) sg0 (6, 7)) ∈ wAll cs z := List.mem_of_getElem? (i := 40) rfl
theorem pl_7_0 (cs : Nat → ClassId) (z : Nat) : (adL z (7, 0), enc cs (adL z) sg0 (7, 0)) ∈ wAll cs z := List.mem_of_getElem? (i := 41) rfl
theorem pl_7_1 (cs : Nat → ClassId) (z : Nat) : (adL z (7, 1), enc cs (adL z) sg0 (7, 1)) ∈ wAll cs z := List.mem_of_getElem? (i := 42) rfl
theorem pl_7_2 (cs : Nat → ClassId) (z : Nat) : (adL z (7, 2), enc cs (adL z) sg0 (7, 2)) ∈ wAll cs z := List.mem_of_getElem? (i := 43) rfl
theorem pl_7_3 (cs : Nat → ClassId) (z : Nat) : (adL z (7, 3), enc cs (adL z) sg0 (7, 3)) ∈ wAll cs z := List.mem_of_getElem? (i := 44) rfl
theorem pl_7_4 (cs : Nat → ClassId) (z : Nat) : (adL z (7, 4), enc cs (adL z) sg0 (7, 4)) ∈ wAll cs z := List.mem_of_getElem? (i := 45) rfl
theorem pl_7_5 (cs : Nat → ClassId) (z : Nat) : (adL z (7, 5), enc cs (adL z) sg0 (7, 5)) ∈ wAll cs z := List.mem_of_getElem? (i := 46) rfl
theorem pl_7_6 (cs : Nat → ClassId) (z : Nat) : (adL z (7, 6), enc cs (adL z) sg0 (7, 6)) ∈ wAll cs z := List.mem_of_getElem? (i := 47) rfl
theorem pl_7_7 (cs : Nat → ClassId) (z : Nat) : (adL z (7, 7), enc cs (adL z) sg0 (7, 7)) ∈ wAll cs z := List.mem_of_getElem? (i := 48) rfl
theorem pl_4_0 (cs : Nat → ClassId) (z : Nat) : (adL z (4, 0), enc cs (adL z) sg0 (4, 0)) ∈ wAll cs z := List.mem_of_getElem? (i := 2) rfl
theorem pl_4_1 (cs : Nat → ClassId) (z : Nat) : (adL z (4, 1), enc cs (adL z) sg0 (4, 1)) ∈ wAll cs z := List.mem_of_getElem? (i := 1) rfl
theorem pl_4_2 (cs : Nat → ClassId) (z : Nat) : (adL z (4, 2), enc cs (adL z) sg0 (4, 2)) ∈ wAll cs z := List.mem_of_getElem? (i := 0) rfl
def idsL : List Ix := [(0, 0), (0, 2), (0, 3), (0, 4), (0, 5), (1, 0), (1, 1), (1, 2), (1, 3), (1, 4), (1, 5), (1, 6), (1, 7), (1, 8), (1, 9), (1, 10), (1, 11), (1, 12), (1, 13), (1, 14), (1, 15), (1, 16), (1, 17), (1, 18), (1, 19), (1, 20), (1, 21), (1, 22), (1, 23), (2, 0), (2, 1), (2, 2), (2, 3), (2, 4), (2, 5), (2, 6), (2, 7), (3, 0), (3, 1), (3, 2), (3, 3), (3, 4), (3, 5), (3, 6), (3, 7), (6, 0), (6, 1), (6, 2), (6, 3), (6, 4), (6, 5), (6, 6), (6, 7), (7, 0), (7, 1), (7, 2), (7, 3), (7, 4), (7, 5), (7, 6), (7, 7), (4, 0), (4, 1), (4, 2)]
theorem idsL_eq : idsA = idsL := by decide +kernel
theorem pl_all (cs : Nat → ClassId) (z : Nat) : ∀ i ∈ idsL, (adL z i, enc cs (adL z) sg0 i) ∈ wAll cs z := List.forall_mem_cons.mpr ⟨pl_0_0 cs z, List.forall_mem_cons.mpr ⟨pl_0_2 cs z, List.forall_mem_cons.mpr ⟨pl_0_3 cs z, List.forall_mem_cons.mpr ⟨pl_0_4 cs z, List.forall_mem_cons.mpr ⟨pl_0_5 cs z, List.forall_mem_cons.mpr ⟨pl_1_0 cs z, List.forall_mem_cons.mpr ⟨pl_1_1 cs z, List.forall_mem_cons.mpr ⟨pl_1_2 cs z, List.forall_mem_cons.mpr ⟨pl_1_3 cs z, List.forall_mem_cons.mpr ⟨pl_1_4 cs z, List.forall_mem_cons.mpr ⟨pl_1_5 cs z, List.forall_mem_cons.mpr ⟨pl_1_6 cs z, List.forall_mem_cons.mpr ⟨pl_1_7 cs z, List.forall_mem_cons.mpr ⟨pl_1_8 cs z, List.forall_mem_cons.mpr ⟨pl_1_9 cs z, List.forall_mem_cons.mpr ⟨pl_1_10 cs z, List.forall_mem_cons.mpr ⟨pl_1_11 cs z, List.forall_mem_cons.mpr ⟨pl_1_12 cs z, List.forall_mem_cons.mpr ⟨pl_1_13 cs z, List.forall_mem_cons.mpr ⟨pl_1_14 cs z, List.forall_mem_cons.mpr ⟨pl_1_15 cs z, List.forall_mem_cons.mpr ⟨pl_1_16 cs z, List.forall_mem_cons.mpr ⟨pl_1_17 cs z, List.forall_mem_cons.mpr ⟨pl_1_18 cs z, List.forall_mem_cons.mpr ⟨pl_1_19 cs z, List.forall_mem_cons.mpr ⟨pl_1_20 cs z, List.forall_mem_cons.mpr ⟨pl_1_21 cs z, List.forall_mem_cons.mpr ⟨pl_1_22 cs z, List.forall_mem_cons.mpr ⟨pl_1_23 cs z, List.forall_mem_cons.mpr ⟨pl_2_0 cs z, List.forall_mem_cons.mpr ⟨pl_2_1 cs z, List.forall_mem_cons.mpr ⟨pl_2_2 cs z, List.forall_mem_cons.mpr ⟨pl_2_3 cs z, List.forall_mem_cons.mpr ⟨pl_2_4 cs z, List.forall_mem_cons.mpr ⟨pl_2_5 cs z, List.forall_mem_cons.mpr ⟨pl_2_6 cs z, List.forall_mem_cons.mpr ⟨pl_2_7 cs z, List.forall_mem_cons.mpr ⟨pl_3_0 cs z, List.forall_mem_cons.mpr ⟨pl_3_1 cs z, List.forall_mem_cons.mpr ⟨pl_3_2 cs z, List.forall_mem_cons.mpr ⟨pl_3_3 cs z, List.forall_mem_cons.mpr ⟨pl_3_4 cs z, List.forall_mem_cons.mpr ⟨pl_3_5 cs z, List.forall_mem_cons.mpr ⟨pl_3_6 cs z, List.forall_mem_cons.mpr ⟨pl_3_7 cs z, List.forall_mem_cons.mpr ⟨pl_6_0 cs z, List.forall_mem_cons.mpr ⟨pl_6_1 cs z, List.forall_mem_cons.mpr ⟨pl_6_2 cs z, List.forall_mem_cons.mpr ⟨pl_6_3 cs z, List.forall_mem_cons.mpr ⟨pl_6_4 cs z, List.forall_mem_cons.mpr ⟨pl_6_5 cs z, List.forall_mem_cons.mpr ⟨pl_6_6 cs z, List.forall_mem_cons.mpr ⟨pl_6_7 cs z, List.forall_mem_cons.mpr ⟨pl_7_0 cs z, List.forall_mem_cons.mpr ⟨pl_7_1 cs z, List.forall_mem_cons.mpr ⟨pl_7_2 cs z, List.forall_mem_cons.mpr ⟨pl_7_3 cs z, List.forall_mem_cons.mpr ⟨pl_7_4 cs z, List.forall_mem_cons.mpr ⟨pl_7_5 cs z, List.forall_mem_cons.mpr ⟨pl_7_6 cs z, List.forall_mem_cons.mpr ⟨pl_7_7 cs z, List.forall_mem_cons.mpr ⟨pl_4_0 cs z, List.forall_mem_cons.mpr ⟨pl_4_1 cs z, List.forall_mem_cons.mpr ⟨pl_4_2 cs z, fun _ h => by cases h⟩⟩⟩⟩⟩⟩⟩⟩⟩⟩⟩⟩⟩⟩⟩⟩⟩⟩⟩⟩⟩⟩⟩⟩⟩⟩⟩⟩⟩⟩⟩⟩⟩⟩⟩⟩⟩⟩⟩⟩⟩⟩⟩⟩⟩⟩⟩⟩⟩⟩⟩⟩⟩⟩⟩⟩⟩⟩⟩⟩⟩⟩⟩⟩
section LAWS
variable {p : Program} {l : Launch} {e : Env} {s : State} {m : MethodId} {args : Array Value} {below : List Frame} {meth : Method} {c : Code} {D : va_G} {cs : Nat → ClassId} {ad : Ix → Nat} {A : Nat → Prop} {Q : State → Prop} {b L : Nat} {xs : Nat → Int32} {k n : Nat}
set_option maxHeartbeats 4000000 in
set_option maxRecDepth 100000 in
theorem law_loop (Z : LAt l p s m args meth c cL_law 16 D cs ad A b L xs) (fin : ∀ (k n : Nat) (σ : Mem) (so si i : Int), k ≤ 600130 → n ≤ 7301080 → Wx p l e room_1 s m args below meth c D cs idsA ad A s.heap 16 Q (k) (n) σ 521 [some (.ref (b)), some (.ref (ad (3, 7))), some (jI 5), some (.ref (ad (4, 0))), some (.ref (ad (4, 1))), some (.ref (ad (4, 2))), some (jI so), some (jI si), some (jI i), none, none, none, none, none, none, none] []) : ∀ (t j : Nat) (σ : Mem) (so si : Int), LI σ so si → j ≤ 10 → 10 - j < t → Wx p l e room_1 s m args below meth c D cs idsA ad A s.heap 16 Q (176 + 80 * j) (4323 + 480 * j) σ 57 [some (.ref (b)), some (.ref (ad (3, 7))), some (jI 5), some (.ref (ad (4, 0))), some (.ref (ad (4, 1))), some (.ref (ad (4, 2))), some (jI so), some (jI si), some (jI ((j : Int))), none, none, none, none, none, none, none] [] := by
  have Z0 := Z
  obtain ⟨X, K, hZ, hA, hX, hbl, hbA, hL, hl⟩ := Z
  intro t
  induction t with
  | zero => exact fun j σ _ _ _ _ h => absurd h (Nat.not_lt_zero _)
  | succ t ih =>
    intro j σ so si H hj ht
    refine zr_iload X dL_law_57 rfl ?_
    refine zr_bipush X dL_law_59 rfl ?_
    refine zr_icmp_ge X 521 dL_law_61 (by decide) ⟨by omega, by omega⟩ ⟨by omega, by omega⟩ (fun g => ?_) (fun g => ?_)
    · exact fin _ _ _ _ _ _ (by omega) (by omega)
    · refine law_change Z0 H ⟨by omega, by omega⟩ ⟨by omega, by omega⟩ (fun τ so' si' a ha H1 => ?_)
      refine law_masks Z0 H1 ⟨by omega, by omega⟩ (fun x y o HE => ?_)
      refine law_ask Z0 HE ha ⟨by omega, by omega⟩ (fun υ H2 => ?_)
      refine zr_iinc X dL_law_515 rfl (by decide) rfl ?_
      refine zr_goto X 57 dL_law_518 (by decide) ?_
      have := ih (j + 1) υ so' si' H2 (by omega) (by omega)
      rw [show 176 + 80 * (j + 1) = 176 + 80 * j + 8 + 72 by omega, show 4323 + 480 * (j + 1) = 4323 + 480 * j + 48 + 432 by omega, show ((j + 1 : Nat) : Int) = (j : Int) + 1 by omega] at this
      exact this
end LAWS

theorem TB_lw {w : Cond} (h : w ∈ TB) : w ∈ lw_tbl := (List.mem_filter.mp h).1
theorem NW_lw {w : Cond} (h : w ∈ NW) : w ∈ lw_tbl := (List.mem_filter.mp h).1
theorem ex_ref {t : Term} {cl : String} {args : Array Value} {s : State} (h : (Cond.exactly t cl).before args s = true) : ∃ a : Addr, t.eval args s none [] s = some (.ref a) := by
  simp only [Cond.before, Cond.holds, Cond.value] at h
  cases he : t.eval args s none [] s with
  | none => rw [he] at h; simp at h
  | some v =>
    rw [he] at h
    cases v with
    | ref a => exact ⟨a, rfl⟩
    | null => cases hf : s.vm.findClass cl <;> rw [hf] at h <;> simp at h
    | _ => simp at h
theorem strs_in {q : Nat × String} (h : q ∈ strs) : Cond.stringRef "FlowNetwork" q.1 q.2 ∈ lw_tbl := by
  obtain ⟨w, hw, he⟩ := List.mem_filterMap.mp h
  revert he
  cases w <;> intro he <;> first | (cases he; done) | skip
  split at he
  · rename_i k t hq
    cases he
    cases hq
    exact hw
  · cases he
theorem strs_ex : ∀ q ∈ strs, Cond.exactly (.string "FlowNetwork" q.1) "java/lang/String" ∈ flatC (Cond.and given_1 narrow_1) := by decide +kernel
/-- arrays of a kind -/
theorem arr_of {ty : FieldType} {args : Array Value} {s : State} (h : (Cond.arrayClass ty).before args s = true) : ∃ cA : ClassId, ArrOfT s cA ty ∧ s.vm.findClass ("[" ++ ty.toString) = some cA := by
  obtain ⟨cA, k, comp, h1, h2, h3⟩ := Cond.arrayClass_spec h
  exact ⟨cA, fun n z => ⟨fun k h => (by cases h), k, h2, comp, h3⟩, h1⟩
theorem arr_ofA {args : Array Value} {s : State} (h : (Cond.arrayOver (.array .int)).before args s = true) : ∃ cA : ClassId, ArrOfT s cA (.array .int) ∧ s.vm.findClass ("[" ++ (FieldType.array .int).toString) = some cA := by
  obtain ⟨comp, cA, k, h0, h2, h3, h1⟩ := Cond.arrayOver_specA h
  exact ⟨cA, fun n z => ⟨fun k h => (by cases h), k, h2, comp, h3⟩, h1⟩


theorem kn_all {args : Array Value} {s : State} (hTB : ∀ w ∈ TB, w.before args s = true) (hov : (Cond.arrayOver (.array .int)).before args s = true) : ∃ (D : va_G) (cs : Nat → ClassId), va_K D vwCl (tysL cs) s := by
  obtain ⟨c0, i0, h0⟩ := u_known (C := RX0) (T := TX0) (N := 3) hTB ti_0 (hTB _ tw_165)
  obtain ⟨c1, i1, h1⟩ := u_known (C := RX1) (T := TX1) (N := 3) hTB ti_1 (hTB _ tw_75)
  obtain ⟨c2, i2, h2⟩ := u_known (C := RX2) (T := TX2) (N := 4) hTB ti_2 (hTB _ tw_146)
  obtain ⟨c3, i3, h3⟩ := u_known (C := RX3) (T := TX3) (N := 6) hTB ti_3 (hTB _ tw_69)
  obtain ⟨c4, i4, h4⟩ := u_known (C := RX4) (T := TX4) (N := 6) hTB ti_4 (hTB _ tw_26)
  obtain ⟨c5, i5, h5⟩ := u_known (C := RX5) (T := TX5) (N := 7) hTB ti_5 (hTB _ tw_95)
  obtain ⟨c6, i6, h6⟩ := u_known (C := RX6) (T := TX6) (N := 5) hTB ti_6 (hTB _ tw_18)
  obtain ⟨a0, g0, k0⟩ := arr_of (hTB _ tw_67)
  obtain ⟨a1, g1, k1⟩ := arr_ofA hov
  refine ⟨(fun k => match k with | 0 => c0 | 1 => c1 | 2 => c2 | 3 => c3 | 4 => c4 | 5 => c5 | _ => c6, fun k => match k with | 0 => i0 | 1 => i1 | 2 => i2 | 3 => i3 | 4 => i4 | 5 => i5 | _ => i6), fun k => match k with | 0 => a0 | _ => a1, ?_, ?_⟩
  · intro k q hq
    match k, hq with
    | 0, hq => cases hq; exact h0
    | 1, hq => cases hq; exact h1
    | 2, hq => cases hq; exact h2
    | 3, hq => cases hq; exact h3
    | 4, hq => cases hq; exact h4
    | 5, hq => cases hq; exact h5
    | 6, hq => cases hq; exact h6
    | k + 7, hq => simp [vwCl] at hq
  · intro k q hq
    match k, hq with
    | 0, hq => cases hq; exact ⟨g0, k0⟩
    | 1, hq => cases hq; exact ⟨g1, k1⟩
    | k + 2, hq => simp [tysL] at hq
section ZNI
variable {p : Program} {l : Launch} {e : Env} {R : Room} {s : State} {m : MethodId} {args : Array Value} {below : List Frame} {meth : Method} {c : Code} {D : va_G} {cs : Nat → ClassId} {A : Nat → Prop} {nL : Nat} {Q : State → Prop} {mc ms sz : Nat} {ws : va_W} {pc : Nat} {lo : List (Option Value)} {st : List Value} {cc : ByteArray} {own : String}
theorem wn_istoren (X : Cx p s m args meth c cc nL own) {i : Fin 4} {x : Int32} (d : decode cc pc = .ok (.istore_n i, 1)) (hn : (i : Nat) < nL) (hw : wideAt lo i = false) (k : Wn p l e R s m args below meth c D A s.heap nL Q mc ms sz ws (pc + 1) (lo.set i (some (.int x))) st) : Wn p l e R s m args below meth c D A s.heap nL Q mc ms sz ws pc lo (.int x :: st) := fun H locs ls hws hz hS hl => lv_istore_n X.1 X.2.1 d rfl (lo_lv hl) hn rfl (fun ls' h' => k H locs ls' hws hz hS (lo_put1 hw h'))
end ZNI
set_option maxHeartbeats 8000000 in
set_option maxRecDepth 100000 in
/-- from the entry, for every script of at most 260 ints, the law comes to its end with true -/
theorem whole_start {p : Program} {e : Env} {s : State} {m : MethodId} {below : List Frame} {meth : Method} {c : Code} (l : Launch) (hflags : l.flags = flags0) {b L : Nat} {xs : Nat → Int32} (hL : L ≤ 260) (C0 : lw_At p s m meth c b L xs) : W p l e room_1 s m #[Value.ref b] below meth c s.heap [] 0 0 (lw_Z below #[Value.ref b] s) (entryFrame m ([Value.ref b] : List Value).toArray 16) := by
  obtain ⟨hx, hb, hr, hml, hown, hts, hX, hbl, hlocks, hgv⟩ := id C0
  have hs := flat_of_before _ hgv
  have hl : l.stackTraces = false := by
    unfold Launch.stackTraces
    rw [hflags]
    decide +kernel
  have hTB : ∀ w ∈ TB, w.before #[Value.ref b] s = true := fun w hw => hts w (TB_lw hw)
  have hNx : Nx s := by
    intro w hw
    have h1 := hts w (NW_lw hw)
    have h2 : isNest w = true := (List.mem_filter.mp hw).2
    cases w <;> first | exact va_Nw.of rfl h1 | cases h2
  have hSx : Sx s := ⟨fun q hq => (ex_ref (hs _ (strs_ex q hq))).elim fun a ha => ⟨a, vk_R.of (hts _ (strs_in hq)) ha⟩, fun q hq => (List.not_mem_nil (show q ∈ ([] : List (String × String)) from hq)).elim⟩
  have hov : (Cond.arrayOver (.array .int)).before #[Value.ref b] s = true := hts _ (by decide +kernel)
  obtain ⟨D, cs, hK⟩ := kn_all hTB hov
  have hA : ∀ q : Nat, s.heap.size ≤ q → (fun q : Nat => s.heap.size ≤ q) q := fun _ h => h
  have hZ : Zx (fun q : Nat => s.heap.size ≤ q) s := ⟨vx_Zqof (hts _ (by decide +kernel)) (hts _ (by decide +kernel)) (hs _ (by decide +kernel)) (fun a h1 h2 => Nat.not_le.mpr h1 h2), vx_Zqof (hts _ (by decide +kernel)) (hts _ (by decide +kernel)) (hs _ (by decide +kernel)) (fun a h1 h2 => Nat.not_le.mpr h1 h2)⟩
  have X : Cx p s m #[Value.ref b] meth c cL_law 16 "FlowNetworkLaw" := ⟨hx, hb, hml, hown, hTB, hlocks⟩
  have K0 : Kn D cs (fun q : Nat => s.heap.size ≤ q) s := ⟨hK, hA, hNx, hSx, va_AOA.of hov⟩
  obtain ⟨z, hz⟩ : ∃ z, z = s.heap.size := ⟨_, rfl⟩
  have Z : LAt l p s m #[Value.ref b] meth c cL_law 16 D cs (adL z) (fun q : Nat => s.heap.size ≤ q) b L xs := ⟨X, ⟨hK, adL_ap z, fun i hi => by have := adL_le z i hi; omega, idsA_nd, hNx, hSx⟩, hZ, hA, hX, hbl, Nat.not_le.mpr hbl, hL, hl⟩
  have fin : ∀ (k n : Nat) (σ : Mem) (so si i : Int), k ≤ 600130 → n ≤ 7301080 → Wx p l e room_1 s m #[Value.ref b] below meth c D cs idsA (adL z) (fun q : Nat => s.heap.size ≤ q) s.heap 16 (lw_Z below #[Value.ref b] s) (k) (n) σ 521 [some (.ref (b)), some (.ref (adL z (3, 7))), some (jI 5), some (.ref (adL z (4, 0))), some (.ref (adL z (4, 1))), some (.ref (adL z (4, 2))), some (jI so), some (jI si), some (jI i), none, none, none, none, none, none, none] [] := by
    intro k n σ so si i hk hn
    refine zr_iconst X dL_law_521 ?_
    intro H locs ls hP hS hl
    exact va_forget hS.2.2 (W.widen hk hn (lw_ret (d0 := s.drawn) (Drawn.sameBut.refl s.drawn lw_cs) hx hb hr hlocks dL_law_522))
  have hWx : Wx p l e room_1 s m #[Value.ref b] below meth c D cs idsA (adL z) (fun q : Nat => s.heap.size ≤ q) s.heap 16 (lw_Z below #[Value.ref b] s) (64) (3651) sg0 27 [some (.ref (b)), some (.ref (adL z (3, 7))), some (jI 5), some (.ref (adL z (4, 0))), some (.ref (adL z (4, 1))), some (.ref (adL z (4, 2))), none, none, none, none, none, none, none, none, none, none] [] := by
    refine zr_aloadn X dL_law_27 rfl ?_
    refine zr_aloadn X dL_law_28 rfl ?_
    refine zr_iconst X dL_law_29 ?_
    refine zr_iloadn X dL_law_30 rfl ?_
    refine zr_aloadn X dL_law_31 rfl ?_
    refine zr_aload X dL_law_32 rfl ?_
    refine zr_aload X dL_law_34 rfl ?_
    refine zr_bipush X dL_law_36 rfl ?_
    refine zr_lbld X Z.2.1 hZ hA hX hbl (Nat.not_le.mpr hbl) (As := [(.ref (adL z (3, 7))), (.ref (b)), (jI 0), (jI 5), (.ref (adL z (4, 0))), (.ref (adL z (4, 1))), (.ref (adL z (4, 2))), (jI 7)]) (st := []) (fun sz' => c_L_build l D cs (adL z) (adL_ap z) hl bN_0 hL sz') ⟨tw_509, tw_510, tw_0, tw_511⟩ dc_L_build rfl rfl (Nat.le_of_ble_eq_true rfl) ⟨Nat.le_of_ble_eq_true rfl, Nat.le_of_ble_eq_true rfl⟩ ⟨Nat.le_of_ble_eq_true rfl, Nat.le_of_ble_eq_true rfl⟩ dL_law_38 (fun z1 τ hp => ?_)
    obtain ⟨rfl, H⟩ := hp
    refine zr_if_ne X 46 dL_law_41 (by decide) ⟨by decide, by decide⟩ (fun g => ?_) (fun g => absurd g (by decide))
    refine zr_iconst X dL_law_46 ?_
    refine zr_istore X dL_law_47 (by decide) rfl ?_
    refine zr_iloadn X dL_law_49 rfl ?_
    refine zr_iconst X dL_law_50 ?_
    refine zr_isub X dL_law_51 ?_
    refine zr_istore X dL_law_52 (by decide) rfl ?_
    refine zr_iconst X dL_law_54 ?_
    refine zr_istore X dL_law_55 (by decide) rfl ?_
    exact law_loop Z fin 11 0 τ 0 4 H (by omega) (by omega)
  rw [lg_entry_eq]
  have hWn : Wn p l e room_1 s m #[Value.ref b] below meth c D (fun q : Nat => s.heap.size ≤ q) s.heap 16 (lw_Z below #[Value.ref b] s) 0 0 z [] 0 (entryLo [Value.ref b] 16) [] := by
    refine wn_newO X K0 (C := RX6) (T := TX6) (N := 5) (ci := 6) (fs := [.null, .null, .null, .null, .null]) rfl ti_6 tyX6 tyX6_ok tw_17 tw_18 tw_1 (fun j hj => by rcases (show j = 0 ∨ j = 1 ∨ j = 2 ∨ j = 3 ∨ j = 4 by omega) with rfl | rfl | rfl | rfl | rfl <;> rfl) ⟨Nat.le_of_ble_eq_true rfl, Nat.le_of_ble_eq_true rfl⟩ dL_law_0 ?_
    refine wn_dup X dL_law_3 rfl ?_
    refine wn_callI X K0 (h0 := z) (As := []) (st := [.ref z]) (c_Fn_new l D cs z (z + 1) (by omega)) rfl ⟨tw_19, tw_20, tw_1, tw_21⟩ dc_X6_init rfl rfl (fun x hx => by cases hx) (by show s.heap.size ≤ z; omega) (fun q hq => by show s.heap.size ≤ q; omega) (Nat.le_of_ble_eq_true rfl) (by decide) dL_law_4 ?_
    refine wn_astoren X dL_law_7 (by decide) rfl ?_
    refine wn_iconst X dL_law_8 ?_
    refine wn_istoren X dL_law_9 (by decide) rfl ?_
    refine wn_bipush X dL_law_10 rfl ?_
    refine wn_newI X K0 (N := 7) rfl (by decide) ⟨Nat.le_of_ble_eq_true rfl, Nat.le_of_ble_eq_true rfl⟩ dL_law_12 ?_
    refine wn_astoren X dL_law_14 (by decide) rfl ?_
    refine wn_bipush X dL_law_15 rfl ?_
    refine wn_newI X K0 (N := 7) rfl (by decide) ⟨Nat.le_of_ble_eq_true rfl, Nat.le_of_ble_eq_true rfl⟩ dL_law_17 ?_
    refine wn_astore X dL_law_19 (by decide) rfl ?_
    refine wn_bipush X dL_law_21 rfl ?_
    refine wn_newI X K0 (N := 7) rfl (by decide) ⟨Nat.le_of_ble_eq_true rfl, Nat.le_of_ble_eq_true rfl⟩ dL_law_23 ?_
    refine wn_astore X dL_law_25 (by decide) rfl ?_
    intro H locs ls hw hsz hS hl
    refine hWx H locs ls (fun i hi => hw _ ?_) hS hl
    rw [idsL_eq] at hi
    exact pl_all cs z i hi
  exact hWn s.heap [] _ (fun x hx => by cases hx) hz.symm va_S.rf (lo_entry _ (Nat.le_of_ble_eq_true rfl))
