/-! THE LAW'S STATE -/
theorem andM (x : Int32) : ∃ v : Int, x &&& iI 2147483647 = iI v ∧ 0 ≤ v ∧ v < 2147483648 := by
  have h : (x.toBitVec &&& 2147483647#32).toNat ≤ 2147483647 := by
    rw [BitVec.toNat_and]
    exact Nat.and_le_right
  refine ⟨((x.toBitVec &&& 2147483647#32).toNat : Int), ?_, by omega, by omega⟩
  rw [← Int32.toInt_inj, iI_toInt ⟨by omega, by omega⟩]
  show (x.toBitVec &&& 2147483647#32).toInt = _
  exact BitVec.toInt_eq_toNat_of_lt (by omega)
theorem and3 (x : Int32) : ∃ v : Int, x &&& iI 3 = iI v ∧ 0 ≤ v ∧ v ≤ 3 := by
  have h : (x.toBitVec &&& 3#32).toNat ≤ 3 := by
    rw [BitVec.toNat_and]
    exact Nat.and_le_right
  refine ⟨((x.toBitVec &&& 3#32).toNat : Int), ?_, by omega, by omega⟩
  rw [← Int32.toInt_inj, iI_toInt ⟨by omega, by omega⟩]
  show (x.toBitVec &&& 3#32).toInt = _
  exact BitVec.toInt_eq_toNat_of_lt (by omega)
theorem zb_div {x n : Int} (hx : 0 ≤ x ∧ x < 2147483648) (hn : 0 < n ∧ n < 2147483648) : iI x / iI n = iI (x / n) := by
  have h1 : 0 ≤ x / n := Int.ediv_nonneg hx.1 (by omega)
  have h2 : x / n ≤ x := Int.ediv_le_self n hx.1
  rw [← Int32.toInt_inj, Int32.toInt_div, iI_toInt ⟨by omega, by omega⟩, iI_toInt ⟨by omega, by omega⟩, iI_toInt ⟨by omega, by omega⟩, Int.tdiv_eq_ediv_of_nonneg hx.1]
  exact Int.bmod_eq_of_le (by omega) (by omega)
theorem zb_rem {x n : Int} (hx : 0 ≤ x ∧ x < 2147483648) (hn : 0 < n ∧ n < 2147483648) : iI x - iI x / iI n * iI n = iI (x % n) := by
  rw [zb_div hx hn, iI_mul, iI_sub]
  congr 1
  have := Int.emod_add_mul_ediv x n
  rw [Int.mul_comm] at this
  omega
theorem iI_ne0 {n : Int} (hn : 0 < n ∧ n < 2147483648) : ¬ iI n = 0 := by
  rw [iI_0, iI_eq ⟨by omega, by omega⟩ rg0]
  omega
theorem n_ite1 {c : Prop} [Decidable c] (h : ¬ (if c then (1 : Int) else 0) = 1) : ¬ c := fun hc => h (if_pos hc)
theorem ite11 {c : Prop} [Decidable c] (h : (if c then (1 : Int) else 0) = 1) : c := Decidable.byContradiction fun hc => by rw [if_neg hc] at h; exact absurd h (by decide)
theorem p5 : pI 5 = 32 := by decide +kernel
theorem d8_two : D8 16 4611686018427387904 := by
  have : FP.Core.val64 4611686018427387904 = .fin false (2 ^ 52) (-51) := by decide +kernel
  unfold D8
  rw [this]
  show FP.Core.signed false (2 ^ 52 * 2 ^ ((-51 : Int) + 3).toNat) = 16 * ((2 ^ (-((-51 : Int) + 3)).toNat : Nat) : Int)
  decide +kernel
theorem sc_two (c : Int) : scS c 16 = if 2 * c ≤ 1000000 then 2 * c else 1000000 := by
  have : rn8 (c * 16) = 2 * c := by
    unfold rn8
    rw [if_pos (by omega)]
    omega
  unfold scS
  rw [this]
/-- a change of the law's own rows -/
theorem fn_4 {σ τ : Mem} (e : ∀ g k : Nat, g ≠ 4 → τ (g, k) = σ (g, k)) (h : fnOk σ) : fnOk τ := by
  refine ⟨mf_cong (fun g k hg => e g k (by omega)) (fun k => e 6 k (by decide)) h.1, ?_, ?_, ?_⟩
  · have := h.2.1
    unfold capOk at this ⊢
    rw [e 6 2 (by decide)]
    exact this
  · have := h.2.2.1
    unfold lvOk at this ⊢
    have e2 : ∀ v : Nat, τ (2, v) = σ (2, v) := fun v => e 2 v (by decide)
    simp only [e 3 0 (by decide), e 3 1 (by decide), e 3 2 (by decide), e 0 0 (by decide), e2]
    exact this
  · have := h.2.2.2
    unfold cuOk at this ⊢
    rw [e 3 4 (by decide)]
    exact this
/-- nodes are made -/
def bN (σ : Mem) (i : Int) : Prop := fnOk σ ∧ endsNo σ 0 ∧ σ (0, 0) 0 = i ∧ σ (0, 1) 0 = 0
theorem bN_step {σ τ : Mem} {i : Int} (h : bN σ i) (hf : fnOk τ) (k : anP σ τ) : bN τ (i + 1) := by
  obtain ⟨h1, h2, h3, h4⟩ := h
  refine ⟨hf, ?_, by rw [k.2, h3], by rw [k.1 (0, 1) (by decide)]; exact h4⟩
  unfold endsNo at h2 ⊢
  rw [k.1 (0 + 6, 8) (by decide), k.1 (0 + 6, 9) (by decide)]
  exact h2
/-- the law's rows say what the network is -/
def rows3 (σ : Mem) (i : Int) : Prop := ∀ a, 0 ≤ a → a < i → σ (4, 0) a = σ (0, 2) a ∧ σ (4, 1) a = σ (0, 3) a ∧ σ (4, 2) a = σ (6, 2) a
/-- arcs are made -/
def bA (σ : Mem) (i : Int) : Prop := fnOk σ ∧ endsNo σ 0 ∧ σ (0, 0) 0 = 5 ∧ σ (0, 1) 0 = i ∧ rows3 σ i
theorem bA_0 {σ : Mem} (h : bN σ 5) : bA σ 0 := ⟨h.1, h.2.1, h.2.2.1, h.2.2.2, fun a a0 a1 => by omega⟩
def ar3 (σ τ : Mem) (i x y z : Int) : Prop := (∀ g k : Nat, g ≠ 4 → τ (g, k) = σ (g, k)) ∧ (τ (4, 0) i = x ∧ τ (4, 1) i = y ∧ τ (4, 2) i = z) ∧ ∀ a, a ≠ i → τ (4, 0) a = σ (4, 0) a ∧ τ (4, 1) a = σ (4, 1) a ∧ τ (4, 2) a = σ (4, 2) a
theorem ar_of {σ σ1 σ2 σ3 : Mem} {i x y z : Int} (h1 : mset σ (4, 0) i x = σ1) (h2 : mset σ1 (4, 1) i y = σ2) (h3 : mset σ2 (4, 2) i z = σ3) : ar3 σ σ3 i x y z := by
  subst h1; subst h2; subst h3
  refine ⟨fun g k hg => ?_, ⟨?_, ?_, mset_same⟩, fun a ha => ⟨?_, ?_, mset_ix ha⟩⟩
  · have n : ∀ j : Nat, ((g, k) : Ix) ≠ (4, j) := fun j e => hg (congrArg Prod.fst e)
    rw [mset_id (n 2), mset_id (n 1), mset_id (n 0)]
  · rw [mset_id (by decide), mset_id (by decide), mset_same]
  · rw [mset_id (by decide), mset_same]
  · rw [mset_id (by decide), mset_id (by decide), mset_ix ha]
  · rw [mset_id (by decide), mset_ix ha, mset_id (by decide)]
theorem ar_pre {σ τ : Mem} {i x y z : Int} (h : bA σ i) (k : ar3 σ τ i x y z) : fnOk τ ∧ τ (0, 0) 0 = 5 ∧ τ (0, 1) 0 = i := ⟨fn_4 k.1 h.1, by rw [k.1 0 0 (by decide)]; exact h.2.2.1, by rw [k.1 0 1 (by decide)]; exact h.2.2.2.1⟩
theorem bA_step {σ υ τ : Mem} {i x y z : Int} (h : bA σ i) (hi : 0 ≤ i) (k : ar3 σ υ i x y z) (hf : fnOk τ) (p : aaP υ τ x y z) : bA τ (i + 1) := by
  obtain ⟨h1, h2, h3, h4, h5⟩ := h
  obtain ⟨k1, ⟨kx, ky, kz⟩, k3⟩ := k
  obtain ⟨p1, p2, p3, p4, p5, p6, p7, p8⟩ := p
  have m0 : υ (0, 1) 0 = i := by rw [k1 0 1 (by decide)]; exact h4
  refine ⟨hf, ?_, by rw [p2, k1 0 0 (by decide)]; exact h3, by rw [p3, m0], fun a a0 a1 => ?_⟩
  · unfold endsNo at h2 ⊢
    rw [p7, p8, k1 (0 + 6) 8 (by decide), k1 (0 + 6) 9 (by decide)]
    exact h2
  · rw [p1 4 0 (by decide) (by decide) (by decide), p1 4 1 (by decide) (by decide) (by decide), p1 4 2 (by decide) (by decide) (by decide), p4, p5, p6, m0]
    by_cases e : a = i
    · rw [if_pos e, if_pos e, if_pos e, e]
      exact ⟨kx, ky, kz⟩
    · rw [if_neg e, if_neg e, if_neg e, k1 0 2 (by decide), k1 0 3 (by decide), k1 6 2 (by decide), (k3 a e).1, (k3 a e).2.1, (k3 a e).2.2]
      exact h5 a a0 (by omega)
/-- between two rounds of the law -/
def LI (σ : Mem) (s t : Int) : Prop := (fnOk σ ∧ σ (0, 0) 0 = 5 ∧ σ (0, 1) 0 = 7 ∧ rows3 σ 7) ∧ (σ (6, 8) 0 = s ∧ σ (6, 9) 0 = t) ∧ (0 ≤ s ∧ s < 5) ∧ (0 ≤ t ∧ t < 5) ∧ s ≠ t
theorem rows3_g {σ τ : Mem} {i : Int} (e : ∀ k : Nat, τ (4, k) = σ (4, k)) (e2 : τ (0, 2) = σ (0, 2)) (e3 : τ (0, 3) = σ (0, 3)) (e6 : τ (6, 2) = σ (6, 2)) (h : rows3 σ i) : rows3 τ i := by
  unfold rows3 at h ⊢
  rw [e 0, e 1, e 2, e2, e3, e6]
  exact h
theorem LI_0 {σ τ υ : Mem} (h : bA σ 7) (k : keepE σ τ 0 4) (k2 : keepE τ υ 0 4) (hf : fnOk υ) : LI υ 0 4 := by
  refine ⟨⟨hf, by rw [k2.1 0 0 (by decide), k.1 0 0 (by decide)]; exact h.2.2.1, by rw [k2.1 0 1 (by decide), k.1 0 1 (by decide)]; exact h.2.2.2.1, rows3_g (fun j => (k2.1 4 j (by decide)).trans (k.1 4 j (by decide))) ((k2.1 0 2 (by decide)).trans (k.1 0 2 (by decide))) ((k2.1 0 3 (by decide)).trans (k.1 0 3 (by decide))) (k2.2.1.trans k.2.1) h.2.2.2.2⟩, ⟨k2.2.2.1, k2.2.2.2⟩, ⟨by omega, by omega⟩, ⟨by omega, by omega⟩, by omega⟩
theorem LI_q {σ τ : Mem} {s t : Int} (h : LI σ s t) (k : keepQ σ τ) (hf : fnOk τ) : LI τ s t := by
  obtain ⟨⟨h1, h2, h3, h4⟩, ⟨h5, h6⟩, h7⟩ := h
  exact ⟨⟨hf, by rw [k.1 0 0 (by decide)]; exact h2, by rw [k.1 0 1 (by decide)]; exact h3, rows3_g (fun j => k.1 4 j (by decide)) (k.1 0 2 (by decide)) (k.1 0 3 (by decide)) k.2.1 h4⟩, ⟨by rw [k.2.2.1]; exact h5, by rw [k.2.2.2]; exact h6⟩, h7⟩
theorem LI_e {σ τ : Mem} {s t v w : Int} (h : LI σ s t) (k : keepE σ τ v w) (hf : fnOk τ) (hv : 0 ≤ v ∧ v < 5) (hw : 0 ≤ w ∧ w < 5) (hn : v ≠ w) : LI τ v w := by
  obtain ⟨⟨h1, h2, h3, h4⟩, -⟩ := h
  exact ⟨⟨hf, by rw [k.1 0 0 (by decide)]; exact h2, by rw [k.1 0 1 (by decide)]; exact h3, rows3_g (fun j => k.1 4 j (by decide)) (k.1 0 2 (by decide)) (k.1 0 3 (by decide)) k.2.1 h4⟩, ⟨k.2.2.1, k.2.2.2⟩, hv, hw, hn⟩
theorem LI_c {σ τ υ : Mem} {s t a c : Int} (h : LI σ s t) (k : keepC σ τ (updC (σ (6, 2)) a c)) (hf : fnOk τ) (e : mset τ (4, 2) a c = υ) : LI υ s t := by
  obtain ⟨⟨h1, h2, h3, h4⟩, ⟨h5, h6⟩, h7⟩ := h
  subst e
  have n : ∀ g j : Nat, g ≠ 4 → mset τ (4, 2) a c (g, j) = τ (g, j) := fun g j hg => mset_id (fun q => hg (congrArg Prod.fst q))
  refine ⟨⟨fn_4 n hf, ?_, ?_, fun j j0 j1 => ?_⟩, ⟨?_, ?_⟩, h7⟩
  · rw [n 0 0 (by decide), k.1 0 0 (by decide)]; exact h2
  · rw [n 0 1 (by decide), k.1 0 1 (by decide)]; exact h3
  · rw [mset_id (q := (4, 0)) (by decide), mset_id (q := (4, 1)) (by decide), n 0 2 (by decide), n 0 3 (by decide), n 6 2 (by decide), k.1 4 0 (by decide), k.1 4 1 (by decide), k.1 0 2 (by decide), k.1 0 3 (by decide), k.2.1]
    obtain ⟨g1, g2, g3⟩ := h4 j j0 j1
    refine ⟨g1, g2, ?_⟩
    unfold updC
    by_cases q : j = a
    · rw [if_pos q, q, mset_same]
    · rw [if_neg q, mset_ix q, k.1 4 2 (by decide)]
      exact g3
  · rw [n 6 8 (by decide), k.2.2.1]; exact h5
  · rw [n 6 9 (by decide), k.2.2.2]; exact h6
/-- the law doubles -/
def dbl (x : Int) : Int := if 2 * x ≤ 1000000 then 2 * x else 1000000
def scL (σ υ : Mem) (v j : Int) : Prop := (∀ q : Ix, q ≠ (4, 2) → υ q = σ q) ∧ ∀ a, υ (4, 2) a = if (0 ≤ a ∧ a < j) ∧ σ (4, 0) a = v then dbl (σ (4, 2) a) else σ (4, 2) a
theorem scL_0 {σ : Mem} {v : Int} : scL σ σ v 0 := ⟨fun _ _ => rfl, fun a => (if_neg (fun q => by omega)).symm⟩
theorem scL_no {σ υ : Mem} {v j : Int} (h : scL σ υ v j) (hn : ¬ υ (4, 0) j = v) : scL σ υ v (j + 1) := by
  refine ⟨h.1, fun a => ?_⟩
  rw [h.1 (4, 0) (by decide)] at hn
  rw [h.2 a]
  by_cases q : a = j
  · subst q
    rw [if_neg (fun g => hn g.2), if_neg (fun g => hn g.2)]
  · by_cases g : (0 ≤ a ∧ a < j) ∧ σ (4, 0) a = v
    · rw [if_pos g, if_pos ⟨⟨g.1.1, by omega⟩, g.2⟩]
    · rw [if_neg g, if_neg (fun z => g ⟨⟨z.1.1, by omega⟩, z.2⟩)]
theorem scL_at {σ υ : Mem} {v j : Int} (h : scL σ υ v j) : υ (4, 2) j = σ (4, 2) j := by
  rw [h.2 j]
  exact if_neg (fun q => by omega)
theorem scL_yes {σ υ τ : Mem} {v j w : Int} (h : scL σ υ v j) (hj : 0 ≤ j) (hy : υ (4, 0) j = v) (hw : (w = 2 * υ (4, 2) j ∨ w = 1000000) ∧ w ≤ 2 * υ (4, 2) j ∧ w ≤ 1000000) (e : mset υ (4, 2) j w = τ) : scL σ τ v (j + 1) := by
  subst e
  refine ⟨fun q hq => by rw [mset_id hq]; exact h.1 q hq, fun a => ?_⟩
  rw [h.1 (4, 0) (by decide)] at hy
  rw [scL_at h] at hw
  rw [mset_at]
  by_cases q : a = j
  · rw [if_pos q, if_pos ⟨⟨by omega, by omega⟩, by rw [q]; exact hy⟩, q]
    unfold dbl
    split <;> omega
  · rw [if_neg q, h.2 a]
    by_cases g : (0 ≤ a ∧ a < j) ∧ σ (4, 0) a = v
    · rw [if_pos g, if_pos ⟨⟨g.1.1, by omega⟩, g.2⟩]
    · rw [if_neg g, if_neg (fun z => g ⟨⟨z.1.1, by omega⟩, z.2⟩)]
theorem scL_pre {σ υ : Mem} {s t v j : Int} (h : LI σ s t) (k : scL σ υ v j) : fnOk υ ∧ υ (0, 0) 0 = 5 ∧ υ (0, 1) 0 = 7 := by
  have n : ∀ g j : Nat, g ≠ 4 → υ (g, j) = σ (g, j) := fun g j hg => k.1 (g, j) (fun q => hg (congrArg Prod.fst q))
  exact ⟨fn_4 n h.1.1, by rw [n 0 0 (by decide)]; exact h.1.2.1, by rw [n 0 1 (by decide)]; exact h.1.2.2.1⟩
theorem LI_s {σ υ τ : Mem} {s t v : Int} (h : LI σ s t) (k : scL σ υ v 7) (p : keepC υ τ (scC υ v 16 (υ (0, 1) 0))) (hf : fnOk τ) : LI τ s t := by
  have hm := (scL_pre h k).2.2
  obtain ⟨⟨h1, h2, h3, h4⟩, ⟨h5, h6⟩, h7⟩ := h
  have n : ∀ g j : Nat, g ≠ 4 → υ (g, j) = σ (g, j) := fun g j hg => k.1 (g, j) (fun q => hg (congrArg Prod.fst q))
  refine ⟨⟨hf, ?_, ?_, fun j j0 j1 => ?_⟩, ⟨?_, ?_⟩, h7⟩
  · rw [p.1 0 0 (by decide), n 0 0 (by decide)]; exact h2
  · rw [p.1 0 1 (by decide), n 0 1 (by decide)]; exact h3
  · rw [p.1 4 0 (by decide), p.1 4 1 (by decide), p.1 4 2 (by decide), p.1 0 2 (by decide), p.1 0 3 (by decide), p.2.1, hm, k.1 (4, 0) (by decide), k.1 (4, 1) (by decide), n 0 2 (by decide), n 0 3 (by decide), k.2 j]
    obtain ⟨g1, g2, g3⟩ := h4 j j0 j1
    refine ⟨g1, g2, ?_⟩
    unfold scC
    rw [n 0 2 (by decide), n 6 2 (by decide), g1, g3]
    by_cases q : σ (0, 2) j = v
    · rw [if_pos ⟨⟨j0, j1⟩, q⟩, if_pos ⟨⟨j0, j1⟩, q⟩, sc_two]
      rfl
    · rw [if_neg (fun z => q z.2), if_neg (fun z => q z.2)]
  · rw [p.2.2.1, n 6 8 (by decide)]; exact h5
  · rw [p.2.2.2, n 6 9 (by decide)]; exact h6
/-! the network of the state, by its own rows and by the law's -/
theorem LI_n5 {σ : Mem} {s t : Int} (h : LI σ s t) : n5 7 (σ (0, 2)) (σ (0, 3)) (σ (6, 2)) := by
  obtain ⟨⟨h1, h2, h3, h4⟩, -⟩ := h
  refine ⟨by decide, fun a a0 a1 => ?_⟩
  have hN := h1.net.2.2 a a0 (by omega)
  have hc := h1.2.1 a a0 (by omega)
  exact ⟨⟨⟨hN.1.1, by omega⟩, hN.2.1.1, by omega⟩, hc⟩
def cpL (σ : Mem) (q : Int) : Int := gcp 7 (σ (4, 0)) (σ (4, 1)) (σ (4, 2)) (bt q)
theorem cpL_eq {σ : Mem} {s t : Int} (h : LI σ s t) (q : Int) : cpL σ q = gcp 7 (σ (0, 2)) (σ (0, 3)) (σ (6, 2)) (bt q) := (gcp_cong (fun a a0 a1 => by
  obtain ⟨g1, g2, g3⟩ := h.1.2.2.2 a a0 a1
  exact ⟨g1, g2, g3⟩) (bt q))
theorem cpL_rg {σ : Mem} {s t : Int} (h : LI σ s t) (q : Int) : 0 ≤ cpL σ q ∧ cpL σ q ≤ 80000000 := by
  rw [cpL_eq h]
  exact n5_cp (LI_n5 h) _
theorem LI_pre {σ : Mem} {s t : Int} (h : LI σ s t) : ∀ a, 0 ≤ a → a < 7 → (0 ≤ σ (4, 0) a ∧ σ (4, 0) a < 5) ∧ (0 ≤ σ (4, 1) a ∧ σ (4, 1) a < 5) ∧ 0 ≤ σ (4, 2) a ∧ σ (4, 2) a ≤ 1000000 := fun a a0 a1 => by
  obtain ⟨g1, g2, g3⟩ := h.1.2.2.2 a a0 a1
  obtain ⟨⟨k1, k2⟩, k3⟩ := (LI_n5 h).2 a a0 a1
  rw [g1, g2, g3]
  exact ⟨k1, k2, k3⟩
/-- what the walk over the masks has found -/
def LE (σ : Mem) (s t L A O : Int) : Prop := LI σ s t ∧ mE 7 (σ (0, 2)) (σ (0, 3)) (σ (6, 2)) s t L A O
theorem LE_of {σ : Mem} {s t L A O : Int} (h : LI σ s t) (k : mI (vq s t) (cpL σ) 32 L A O) : LE σ s t L A O := by
  refine ⟨h, ?_⟩
  unfold mE
  rw [show (fun q => gcp 7 (σ (0, 2)) (σ (0, 3)) (σ (6, 2)) (bt q)) = cpL σ from funext fun q => (cpL_eq h q).symm]
  exact k
section QS
variable {σ τ : Mem} {s t L A O z x y a : Int}
theorem LE_m (h : LE σ s t L A O) : (σ (0, 1) 0).toNat = 7 := by rw [h.1.1.2.2.1]; rfl
theorem kq_m (k : keepQ σ τ) : τ (0, 1) = σ (0, 1) ∧ τ (0, 2) = σ (0, 2) ∧ τ (0, 3) = σ (0, 3) ∧ τ (0, 0) = σ (0, 0) := ⟨k.1 0 1 (by decide), k.1 0 2 (by decide), k.1 0 3 (by decide), k.1 0 0 (by decide)⟩
theorem LE_min (h : LE σ s t L A O) : mnS σ (σ (6, 2)) (σ (6, 8) 0) (σ (6, 9) 0) L := by
  unfold mnS
  rw [LE_m h, h.1.2.1.1, h.1.2.1.2]
  exact mE_min (LI_n5 h.1) h.1.2.2.1 h.1.2.2.2.1 h.1.2.2.2.2 h.2
theorem q_max (h : LE σ s t L A O) (k : keepQ σ τ) (q : mnS τ (τ (6, 2)) (τ (6, 8) 0) (τ (6, 9) 0) z) : z = L := by
  obtain ⟨k1, k2, k3, k4⟩ := kq_m k
  rw [show mnS τ (τ (6, 2)) (τ (6, 8) 0) (τ (6, 9) 0) z = mnS σ (σ (6, 2)) (σ (6, 8) 0) (σ (6, 9) 0) z by unfold mnS; rw [k1, k2, k3, k.2.1, k.2.2.1, k.2.2.2]] at q
  exact isMn_one q (LE_min h)
theorem q_mcS (h : LE σ s t L A O) (k : keepQ σ τ) (X : Int → Bool) : mcS τ X = mcut 7 (σ (0, 2)) (σ (0, 3)) (σ (6, 2)) s t X := by
  obtain ⟨k1, k2, k3, k4⟩ := kq_m k
  unfold mcS
  rw [k1, k2, k3, k.2.1, k.2.2.1, k.2.2.2, LE_m h, h.1.2.1.1, h.1.2.1.2]
theorem q_sm (h : LE σ s t L A O) (k : keepQ σ τ) (q : smP τ z) : z = A := by
  unfold smP at q
  simp only [q_mcS h k] at q
  exact mE_sm (LI_n5 h.1) h.1.2.2.1 h.1.2.2.2.1 h.1.2.2.2.2 h.2 q
theorem q_gt (h : LE σ s t L A O) (k : keepQ σ τ) (q : gtP τ z) : z = O := by
  obtain ⟨k1, k2, k3, k4⟩ := kq_m k
  unfold gtP at q
  simp only [q_mcS h k, k4, h.1.1.2.1] at q
  exact mE_gt (LI_n5 h.1) h.1.2.2.1 h.1.2.2.2.1 h.1.2.2.2.2 h.2 q
theorem q_cut (h : LE σ s t L A O) (k : keepQ σ τ) {m : Int} (hm : (0 ≤ m ∧ m < 32) ∧ vq s t m) : cutS τ m := by
  obtain ⟨k1, k2, k3, k4⟩ := kq_m k
  unfold cutS
  rw [k4, h.1.1.2.1, p5, k.2.2.1, k.2.2.2, h.1.2.1.1, h.1.2.1.2]
  exact hm
theorem q_cp (h : LE σ s t L A O) (k : keepQ σ τ) (X : Int → Bool) : gcp (τ (0, 1) 0).toNat (τ (0, 2)) (τ (0, 3)) (τ (6, 2)) X = gcp 7 (σ (0, 2)) (σ (0, 3)) (σ (6, 2)) X := by
  obtain ⟨k1, k2, k3, k4⟩ := kq_m k
  rw [k1, k2, k3, k.2.1, LE_m h]
theorem q_A (h : LE σ s t L A O) : ((0 ≤ A ∧ A < 32) ∧ vq s t A) ∧ gcp 7 (σ (0, 2)) (σ (0, 3)) (σ (6, 2)) (bt A) = L := mE_A (LI_n5 h.1) h.1.2.2.1 h.1.2.2.2.1 h.1.2.2.2.2 h.2
theorem q_O (h : LE σ s t L A O) : ((0 ≤ O ∧ O < 32) ∧ vq s t O) ∧ gcp 7 (σ (0, 2)) (σ (0, 3)) (σ (6, 2)) (bt O) = L := mE_O (LI_n5 h.1) h.1.2.2.1 h.1.2.2.2.1 h.1.2.2.2.2 h.2
theorem q_nn (h : LE σ s t L A O) : ∀ j : Int, 0 ≤ j → j < (7 : Nat) → 0 ≤ σ (6, 2) j := fun j j0 j1 => ((LI_n5 h.1).2 j j0 j1).2.1
theorem q_mn7 (h : LE σ s t L A O) : isMn 7 (σ (0, 2)) (σ (0, 3)) (σ (6, 2)) s t L := mE_min (LI_n5 h.1) h.1.2.2.1 h.1.2.2.2.1 h.1.2.2.2.2 h.2
theorem q_le (h : LE σ s t L A O) (k : keepQ σ τ) (q : leS τ a x) : ∃ G, isMn 7 (σ (0, 2)) (σ (0, 3)) (updC (σ (6, 2)) a 0) s t G ∧ x = L - G := by
  obtain ⟨k1, k2, k3, k4⟩ := kq_m k
  obtain ⟨F, G, q1, q2, q3⟩ := q
  have e := q_max h k q1
  subst e
  unfold mnS at q2
  rw [k1, k2, k3, k.2.1, k.2.2.1, k.2.2.2, LE_m h, h.1.2.1.1, h.1.2.1.2] at q2
  exact ⟨G, q2, q3⟩
theorem q_gf (h : LE σ s t L A O) (k : keepQ σ τ) (q : gfS τ a y) : y ≤ σ (6, 2) a ∧ (y = σ (6, 2) a ∨ ∃ X : Int → Bool, X (σ (0, 3) a) = true ∧ ¬ X (σ (0, 2) a) = true ∧ ind X s L - ind X t L + y = gcp 7 (σ (0, 2)) (σ (0, 3)) (σ (6, 2)) X) := by
  obtain ⟨k1, k2, k3, k4⟩ := kq_m k
  obtain ⟨F, q1, q2, -, q4⟩ := q
  have e := q_max h k q1
  subst e
  rw [k1, k2, k3, k.2.1, k.2.2.1, k.2.2.2, LE_m h, h.1.2.1.1, h.1.2.1.2] at q4
  rw [k.2.1] at q2
  exact ⟨q2, q4⟩
/-- the flows of one arc -/
theorem q_flow (h : LE σ s t L A O) (ha : 0 ≤ a ∧ a < 7) {τ1 τ2 : Mem} (k1 : keepQ σ τ1) (k2 : keepQ σ τ2) (q1 : leS τ1 a x) (q2 : gfS τ2 a y) : (0 ≤ x ∧ x ≤ y) ∧ (0 ≤ y ∧ y ≤ σ (4, 2) a ∧ y ≤ 1000000) := by
  obtain ⟨G, g1, rfl⟩ := q_le h k1 q1
  obtain ⟨p1, p2⟩ := q_gf h k2 q2
  have hc := ((LI_n5 h.1).2 a ha.1 ha.2).2
  have r := (h.1.1.2.2.2 a ha.1 ha.2).2.2
  exact ⟨⟨le_nn (q_nn h) (q_mn7 h) ha g1, le_gf (q_nn h) (q_mn7 h) ha g1 p2⟩, gf_nn (q_nn h) (q_mn7 h) ha p2, by omega, by omega⟩
theorem q_with (h : LE σ s t L A O) (ha : 0 ≤ a ∧ a < 7) {τ1 τ2 : Mem} (k1 : keepQ σ τ1) (k2 : keepQ σ τ2) (q1 : gfS τ1 a y) (q2 : mnS τ2 (updC (τ2 (6, 2)) a y) (τ2 (6, 8) 0) (τ2 (6, 9) 0) z) : z = L := by
  obtain ⟨m1, m2, m3, m4⟩ := kq_m k2
  obtain ⟨p1, p2⟩ := q_gf h k1 q1
  unfold mnS at q2
  rw [m1, m2, m3, k2.2.1, k2.2.2.1, k2.2.2.2, LE_m h, h.1.2.1.1, h.1.2.1.2] at q2
  exact gf_with (q_nn h) (q_mn7 h) ha p1 p2 q2
theorem q_bw (h : LE σ s t L A O) (k : keepQ σ τ) (q : mnS τ (τ (6, 2)) s t z) : z = L := by
  obtain ⟨k1, k2, k3, k4⟩ := kq_m k
  unfold mnS at q
  rw [k1, k2, k3, k.2.1, LE_m h] at q
  exact isMn_one q (q_mn7 h)
end QS
