theorem mF_0_0 : ((0, 0) : Ix) ∈ idsF := by decide +kernel
theorem mF_0_2 : ((0, 2) : Ix) ∈ idsF := by decide +kernel
theorem mF_0_3 : ((0, 3) : Ix) ∈ idsF := by decide +kernel
theorem mF_0_4 : ((0, 4) : Ix) ∈ idsF := by decide +kernel
theorem mF_0_5 : ((0, 5) : Ix) ∈ idsF := by decide +kernel
theorem mF_3_0 : ((3, 0) : Ix) ∈ idsF := by decide +kernel
theorem mF_3_1 : ((3, 1) : Ix) ∈ idsF := by decide +kernel
theorem mF_3_2 : ((3, 2) : Ix) ∈ idsF := by decide +kernel
theorem mF_3_3 : ((3, 3) : Ix) ∈ idsF := by decide +kernel
theorem mF_3_4 : ((3, 4) : Ix) ∈ idsF := by decide +kernel
theorem mF_3_5 : ((3, 5) : Ix) ∈ idsF := by decide +kernel
theorem mF_3_6 : ((3, 6) : Ix) ∈ idsF := by decide +kernel
theorem mF_3_7 : ((3, 7) : Ix) ∈ idsF := by decide +kernel
theorem mF_6_0 : ((6, 0) : Ix) ∈ idsF := by decide +kernel
theorem mF_6_1 : ((6, 1) : Ix) ∈ idsF := by decide +kernel
theorem mF_6_2 : ((6, 2) : Ix) ∈ idsF := by decide +kernel
theorem mF_6_3 : ((6, 3) : Ix) ∈ idsF := by decide +kernel
theorem mF_6_4 : ((6, 4) : Ix) ∈ idsF := by decide +kernel
theorem mF_6_5 : ((6, 5) : Ix) ∈ idsF := by decide +kernel
theorem mF_6_6 : ((6, 6) : Ix) ∈ idsF := by decide +kernel
theorem mF_6_7 : ((6, 7) : Ix) ∈ idsF := by decide +kernel
theorem mF_7_0 : ((7, 0) : Ix) ∈ idsF := by decide +kernel
theorem mF_7_1 : ((7, 1) : Ix) ∈ idsF := by decide +kernel
theorem mF_7_2 : ((7, 2) : Ix) ∈ idsF := by decide +kernel
theorem mF_7_3 : ((7, 3) : Ix) ∈ idsF := by decide +kernel
theorem mF_7_4 : ((7, 4) : Ix) ∈ idsF := by decide +kernel
theorem mF_7_5 : ((7, 5) : Ix) ∈ idsF := by decide +kernel
theorem mF_7_6 : ((7, 6) : Ix) ∈ idsF := by decide +kernel
theorem mF_7_7 : ((7, 7) : Ix) ∈ idsF := by decide +kernel
theorem mM_0 : ((4, 0) : Ix) ∈ idsM := by decide +kernel
theorem mM_1 : ((4, 1) : Ix) ∈ idsM := by decide +kernel
theorem mM_2 : ((4, 2) : Ix) ∈ idsM := by decide +kernel
theorem mB {b k : Nat} (hb : b < 2) (hk : k < 8) : ((b + 6, k) : Ix) ∈ idsF := by
  have h : ∀ b : Fin 2, ∀ k : Fin 8, ((b.val + 6, k.val) : Ix) ∈ idsF := by decide +kernel
  exact h ⟨b, hb⟩ ⟨k, hk⟩
theorem mR1 {v : Nat} (h : v < 24) : ((1, v) : Ix) ∈ idsF := by
  have h1 : ∀ v : Fin 24, ((1, v.val) : Ix) ∈ idsF := by decide +kernel
  exact h1 ⟨v, h⟩
theorem mR2 {v : Nat} (h : v < 8) : ((2, v) : Ix) ∈ idsF := by
  have h1 : ∀ v : Fin 8, ((2, v.val) : Ix) ∈ idsF := by decide +kernel
  exact h1 ⟨v, h⟩
/-! masks: whole numbers, read bit by bit -/
def bt (m v : Int) : Bool := m.toNat.testBit v.toNat
def pI (v : Int) : Int := ((2 ^ v.toNat : Nat) : Int)
def oI (a b : Int) : Int := ((a.toNat ||| b.toNat : Nat) : Int)
def sI (m v : Int) : Int := ((m.toNat / 2 ^ v.toNat : Nat) : Int)
theorem nat_of {z : Int} (h : 0 ≤ z) : ∃ n : Nat, z = (n : Int) := ⟨z.toNat, (Int.toNat_of_nonneg h).symm⟩
theorem zb_shl {v : Int} (h0 : 0 ≤ v) (h : v < 31) : iI 1 <<< (iI v &&& 31) = iI (pI v) := by
  obtain ⟨n, rfl⟩ := nat_of h0
  have h1 : ∀ n : Fin 31, iI 1 <<< (iI (n.val : Int) &&& 31) = iI (pI (n.val : Int)) := by decide +kernel
  exact h1 ⟨n, by omega⟩
theorem zb_sm {n : Nat} (h : n < 32) : ((nI n &&& 31).toBitVec.smod 32).toNat = n := by
  have h1 : ∀ n : Fin 32, ((nI n.val &&& 31).toBitVec.smod 32).toNat = n.val := by decide +kernel
  exact h1 ⟨n, h⟩
theorem zb_shr {m v : Int} (hm : 0 ≤ m) (hm2 : m < 2147483648) (h0 : 0 ≤ v) (h : v < 31) : iI m >>> (iI v &&& 31) = iI (sI m v) := by
  obtain ⟨n, rfl⟩ := nat_of h0
  obtain ⟨k, rfl⟩ := nat_of hm
  exact pk_shrN (n := k) (by omega) _ n (zb_sm (by omega))
theorem zb_and1 {m : Int} (hm : 0 ≤ m) (hm2 : m < 2147483648) : iI m &&& iI 1 = iI (m % 2) := by
  obtain ⟨k, rfl⟩ := nat_of hm
  exact pk_andN (n := k) (by omega) (m := 1) 1 rfl
theorem zb_or {a b : Int} (ha : 0 ≤ a) (hb : 0 ≤ b) : iI a ||| iI b = iI (oI a b) := by
  obtain ⟨k, rfl⟩ := nat_of ha
  obtain ⟨n, rfl⟩ := nat_of hb
  show Int32.ofNat k ||| Int32.ofNat n = Int32.ofNat (k ||| n)
  apply Int32.toBitVec_inj.mp
  apply BitVec.eq_of_getLsbD_eq
  intro i hi
  simp [hi]
theorem sI_mod {m v : Int} : sI m v % 2 = if bt m v then 1 else 0 := by
  unfold sI bt
  rw [Nat.testBit_eq_decide_div_mod_eq]
  generalize m.toNat / 2 ^ v.toNat = q
  have h : q % 2 < 2 := Nat.mod_lt _ (by decide)
  by_cases h1 : q % 2 = 1
  · rw [decide_eq_true h1, if_pos rfl]
    omega
  · rw [decide_eq_false h1, if_neg (by decide)]
    omega
theorem sI_rg {m v : Int} (hm2 : m < 2147483648) : 0 ≤ sI m v ∧ sI m v < 2147483648 := by
  unfold sI
  have : m.toNat / 2 ^ v.toNat ≤ m.toNat := Nat.div_le_self _ _
  generalize m.toNat / 2 ^ v.toNat = q at *
  omega
/-- a mask of nodes below n -/
def isM (n m : Int) : Prop := 0 ≤ m ∧ m < 16777216 ∧ ∀ v, 0 ≤ v → bt m v = true → v < n
theorem oI_lt {a b : Int} (ha : a < 16777216) (hb : b < 16777216) : 0 ≤ oI a b ∧ oI a b < 16777216 := by
  have h := Nat.or_lt_two_pow (x := a.toNat) (y := b.toNat) (n := 24) (by omega) (by omega)
  unfold oI
  omega
theorem bt_o {a b v : Int} : bt (oI a b) v = (bt a v || bt b v) := by
  unfold bt oI
  rw [Int.toNat_natCast, Nat.testBit_or]
theorem bt_p {v w : Int} (hv : 0 ≤ v) (hw : 0 ≤ w) : bt (pI v) w = decide (v = w) := by
  unfold bt pI
  rw [Int.toNat_natCast, Nat.testBit_two_pow]
  have : (v.toNat = w.toNat) ↔ (v = w) := by omega
  simp [this]
theorem pI_rg {v : Int} (h : v < 24) : 0 ≤ pI v ∧ pI v < 16777216 := by
  unfold pI
  have h1 : 2 ^ v.toNat < 2 ^ 24 := Nat.pow_lt_pow_right (by decide) (by omega)
  generalize 2 ^ v.toNat = q at *
  omega
theorem pI_rg31 {v : Int} (h : v < 31) : 0 ≤ pI v ∧ pI v < 2147483648 := by
  unfold pI
  have h1 : 2 ^ v.toNat < 2 ^ 31 := Nat.pow_lt_pow_right (by decide) (by omega)
  generalize 2 ^ v.toNat = q at *
  omega
theorem bt_ext {a b : Int} (ha : 0 ≤ a) (hb : 0 ≤ b) (h : ∀ v, 0 ≤ v → bt a v = bt b v) : a = b := by
  have : a.toNat = b.toNat := by
    apply Nat.eq_of_testBit_eq
    intro i
    have := h (i : Int) (by omega)
    unfold bt at this
    rwa [Int.toNat_natCast] at this
  omega
theorem bt_big {m v : Int} (hm : m < 16777216) (hv : 24 ≤ v) : bt m v = false := by
  unfold bt
  apply Nat.testBit_lt_two_pow
  calc m.toNat < 2 ^ 24 := by omega
    _ ≤ 2 ^ v.toNat := Nat.pow_le_pow_right (by decide) (by omega)
/-! what a network is -/
def NetOk (σ : Mem) : Prop := (0 ≤ σ (0, 0) 0 ∧ σ (0, 0) 0 ≤ 24) ∧ (0 ≤ σ (0, 1) 0 ∧ σ (0, 1) 0 ≤ 80) ∧
  (∀ a, 0 ≤ a → a < σ (0, 1) 0 → (0 ≤ σ (0, 2) a ∧ σ (0, 2) a < σ (0, 0) 0) ∧ (0 ≤ σ (0, 3) a ∧ σ (0, 3) a < σ (0, 0) 0) ∧ σ (0, 2) a ≠ σ (0, 3) a)
/-- the rows of arcs at each node -/
def AdjOk (σ : Mem) : Prop := (∀ v, 0 ≤ v → v < 24 → 0 ≤ σ (0, 4) v ∧ σ (0, 4) v ≤ σ (0, 1) 0) ∧ (∀ v, σ (0, 0) 0 ≤ v → v < 24 → σ (0, 4) v = 0) ∧
  (∀ v i, 0 ≤ v → v < 24 → 0 ≤ i → i < σ (0, 4) v → (0 ≤ σ (1, v.toNat) i ∧ σ (1, v.toNat) i < σ (0, 1) 0) ∧ (σ (0, 2) (σ (1, v.toNat) i) = v ∨ σ (0, 3) (σ (1, v.toNat) i) = v)) ∧
  (∀ a, 0 ≤ a → a < σ (0, 1) 0 → (∃ i, (0 ≤ i ∧ i < σ (0, 4) (σ (0, 2) a)) ∧ σ (1, (σ (0, 2) a).toNat) i = a) ∧ (∃ i, (0 ≤ i ∧ i < σ (0, 4) (σ (0, 3) a)) ∧ σ (1, (σ (0, 3) a).toNat) i = a))
/-- what an arc may carry, and what it carries -/
def FlOk (σ : Mem) (b : Nat) : Prop := ∀ a, 0 ≤ a → a < σ (0, 1) 0 → 0 ≤ σ (b + 6, 3) a ∧ σ (b + 6, 3) a ≤ σ (b + 6, 2) a ∧ σ (b + 6, 2) a ≤ 100000000
/-- two memories are the same but for some numbers -/
def Agr (l : List Ix) (σ τ : Mem) : Prop := ∀ q, q ∉ l → τ q = σ q
theorem Agr.rf {l : List Ix} {σ : Mem} : Agr l σ σ := fun _ _ => rfl
theorem Agr.tr {l : List Ix} {σ τ υ : Mem} (h : Agr l σ τ) (k : Agr l τ υ) : Agr l σ υ := fun q hq => (k q hq).trans (h q hq)
theorem Agr.up {l k : List Ix} {σ τ : Mem} (h : Agr l σ τ) (hs : ∀ q ∈ l, q ∈ k) : Agr k σ τ := fun q hq => h q (fun e => hq (hs q e))
theorem Agr.set {l : List Ix} {σ : Mem} {i : Ix} {z x : Int} (h : i ∈ l) : Agr l σ (mset σ i z x) := fun q hq => mset_id (fun e => hq (e ▸ h))
