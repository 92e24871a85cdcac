/-! THE REFERENCE: all minimum cuts -/
def aI (a b : Int) : Int := ((a.toNat &&& b.toNat : Nat) : Int)
theorem aI_rg {a b : Int} (ha : mk24 a) : mk24 (aI a b) := by
  have : a.toNat &&& b.toNat ≤ a.toNat := Nat.and_le_left
  unfold aI mk24 at *
  omega
theorem bt_a {a b u : Int} : bt (aI a b) u = (bt a u && bt b u) := by
  unfold bt aI
  rw [Int.toNat_natCast, Nat.testBit_and]
theorem aI_0 {a b : Int} : aI a b = 0 ↔ ∀ u, 0 ≤ u → ¬ (bt a u = true ∧ bt b u = true) := by
  constructor
  · intro h u hu g
    have : bt (aI a b) u = true := by rw [bt_a, g.1, g.2]; rfl
    rw [h] at this
    unfold bt at this
    simp at this
  · intro h
    refine bt_ext (by unfold aI; omega) (Int.le_refl 0) fun v hv => ?_
    rw [bt_a]
    have := h v hv
    have z : bt 0 v = false := by unfold bt; simp
    rw [z]
    cases p : bt a v <;> cases r : bt b v <;> simp_all
theorem zb_and {a b : Int} (ha : 0 ≤ a) (hb : 0 ≤ b) : iI a &&& iI b = iI (aI a b) := by
  obtain ⟨k, rfl⟩ := nat_of ha
  obtain ⟨n, rfl⟩ := nat_of hb
  show Int32.ofNat k &&& Int32.ofNat n = Int32.ofNat (k &&& n)
  apply Int32.toBitVec_inj.mp
  apply BitVec.eq_of_getLsbD_eq
  intro i hi
  simp [hi]
def wclP (σ : Mem) (q W : Int) : Prop := inN (σ (4, 2) 0) W ∧ rcl σ (bt W) ∧ bt W (σ (4, 7) 0) = true ∧ (∀ u, 0 ≤ u → bt q u = true → bt W u = true) ∧ ∀ X, rcl σ X → X (σ (4, 7) 0) = true → (∀ u, 0 ≤ u → bt q u = true → X u = true) → ∀ u, 0 ≤ u → bt W u = true → X u = true
def clP (σ : Mem) (q p z : Int) : Prop := ∃ W, wclP σ q W ∧ ((z = W ∧ ¬ bt W (σ (4, 8) 0) = true ∧ ∀ u, 0 ≤ u → ¬ (bt W u = true ∧ bt p u = true)) ∨ (z = -1 ∧ (bt W (σ (4, 8) 0) = true ∨ ∃ u, 0 ≤ u ∧ bt W u = true ∧ bt p u = true)))
theorem cl_rg {σ : Mem} {q p z : Int} (h : clP σ q p z) : rg z := by
  obtain ⟨W, w1, w2⟩ := h
  have a1 := w1.1.1.1
  have a2 := w1.1.1.2
  rcases w2 with w2 | w2
  · exact ⟨by omega, by omega⟩
  · exact ⟨by omega, by omega⟩
def clI (σ : Mem) (q w k : Int) : Prop := mk24 w ∧ ∀ u, 0 ≤ u → (bt w u = true ↔ bt (σ (4, 20) (σ (4, 7) 0)) u = true ∨ ∃ v, 0 ≤ v ∧ v < k ∧ bt q v = true ∧ bt (σ (4, 20) v) u = true)
theorem clI_0 {σ : Mem} {q : Int} (h : mk24 (σ (4, 20) (σ (4, 7) 0))) : clI σ q (σ (4, 20) (σ (4, 7) 0)) 0 := ⟨h, fun u hu => ⟨Or.inl, fun g => g.elim id (fun ⟨v, a, b, _⟩ => by omega)⟩⟩
theorem clI_s {σ : Mem} {q w k x : Int} (h : clI σ q w k) (hk : 0 ≤ k) (hr : mk24 (σ (4, 20) k)) (hx : (x = σ (4, 20) k ∧ bt q k = true) ∨ (x = 0 ∧ ¬ bt q k = true)) : clI σ q (oI w x) (k + 1) := by
  refine ⟨oI_lt h.1.2 (by rcases hx with g | g <;> rw [g.1]; exact hr.2; decide), fun u hu => ?_⟩
  rw [bt_o, Bool.or_eq_true, h.2 u hu]
  rcases hx with ⟨g, g2⟩ | ⟨g, g2⟩
  · rw [g]
    constructor
    · rintro ((a | ⟨v, a, b, c, d⟩) | a)
      · exact Or.inl a
      · exact Or.inr ⟨v, a, by omega, c, d⟩
      · exact Or.inr ⟨k, hk, by omega, g2, a⟩
    · rintro (a | ⟨v, a, b, c, d⟩)
      · exact Or.inl (Or.inl a)
      · by_cases e : v = k
        · exact Or.inr (e ▸ d)
        · exact Or.inl (Or.inr ⟨v, a, by omega, c, d⟩)
  · have z : ¬ bt x u = true := fun r => by rw [g] at r; unfold bt at r; simp at r
    constructor
    · rintro ((a | ⟨v, a, b, c, d⟩) | a)
      · exact Or.inl a
      · exact Or.inr ⟨v, a, by omega, c, d⟩
      · exact absurd a z
    · rintro (a | ⟨v, a, b, c, d⟩)
      · exact Or.inl (Or.inl a)
      · by_cases e : v = k
        · rw [e] at c; exact absurd c g2
        · exact Or.inl (Or.inr ⟨v, a, by omega, c, d⟩)
theorem clI_end {σ : Mem} {q w : Int} (hN : mNet σ) (hr : rtM σ) (hs : 0 ≤ σ (4, 7) 0 ∧ σ (4, 7) 0 < σ (4, 2) 0) (hq : inN (σ (4, 2) 0) q) (h : clI σ q w (σ (4, 2) 0)) : wclP σ q w := by
  have hrs := hr _ hs.1 hs.2
  have key : ∀ u, 0 ≤ u → (bt w u = true ↔ ∃ v, 0 ≤ v ∧ v < σ (4, 2) 0 ∧ (v = σ (4, 7) 0 ∨ bt q v = true) ∧ bt (σ (4, 20) v) u = true) := fun u hu => by
    rw [h.2 u hu]
    constructor
    · rintro (g | ⟨v, a, b, c, d⟩)
      · exact ⟨_, hs.1, hs.2, Or.inl rfl, g⟩
      · exact ⟨v, a, b, Or.inr c, d⟩
    · rintro ⟨v, a, b, c | c, d⟩
      · exact Or.inl (c ▸ d)
      · exact Or.inr ⟨v, a, b, c, d⟩
  refine ⟨⟨h.1, fun u hu g => ?_⟩, fun a a0 a1 => ?_, (key _ hs.1).mpr ⟨_, hs.1, hs.2, Or.inl rfl, hrs.2.1⟩, fun u hu g => (key u hu).mpr ⟨u, hu, hq.2 u hu g, Or.inr g, (hr u hu (hq.2 u hu g)).2.1⟩, fun X hX xs xq u hu g => ?_⟩
  · obtain ⟨v, a, b, c, d⟩ := (key u hu).mp g
    exact (hr v a b).1.2 u hu d
  · have hNa := hN.2.2 a a0 (by omega)
    constructor
    · intro g r
      obtain ⟨v, v0, v1, c, d⟩ := (key _ hNa.1.1).mp g
      exact (key _ hNa.2.1.1).mpr ⟨v, v0, v1, c, ((hr v v0 v1).2.2.1 a a0 a1).1 d r⟩
    · intro g r
      obtain ⟨v, v0, v1, c, d⟩ := (key _ hNa.2.1.1).mp g
      exact (key _ hNa.1.1).mpr ⟨v, v0, v1, c, ((hr v v0 v1).2.2.1 a a0 a1).2 d r⟩
  · obtain ⟨v, a, b, c, d⟩ := (key u hu).mp g
    exact (hr v a b).2.2.2 X hX (c.elim (fun e => e ▸ xs) (fun e => xq v a e)) u hu d
/-- the closed cuts -/
def clKM (σ : Mem) (X : Int → Bool) : Prop := rcl σ X ∧ X (σ (4, 7) 0) = true ∧ ¬ X (σ (4, 8) 0) = true
theorem cb_yes {σ : Mem} {q k p z : Int} (hk : 0 ≤ k ∧ k < σ (4, 2) 0) (hp : ∀ u, 0 ≤ u → (bt p u = true ↔ u < σ (4, 2) 0 ∧ ¬ bt (hI q k) u = true ∧ k < u)) (h : clP σ (oI (hI q k) (pI k)) p z) (h0 : ∀ v, 0 ≤ v → v < k → ¬ nxP (clKM σ) (σ (4, 2) 0) q v) (c1 : ¬ bt q k = true) (hz : z ≠ -1) (hq : inN (σ (4, 2) 0) q) : nxY (clKM σ) (σ (4, 2) 0) q z := by
  obtain ⟨W, ⟨w1, w2, w3, w4, w5⟩, w6⟩ := h
  obtain ⟨rfl, w7, w8⟩ := w6.resolve_right (fun g => hz g.1)
  have hin : ∀ u, 0 ≤ u → (bt (oI (hI q k) (pI k)) u = true ↔ (k < u ∧ bt q u = true) ∨ u = k) := fun u hu => by
    rw [bt_o, bt_h hk.1 hu, bt_p hk.1 hu, Bool.or_eq_true, Bool.and_eq_true, decide_eq_true_eq, decide_eq_true_eq]
    constructor
    · rintro (⟨a, b⟩ | a)
      · by_cases e : k = u
        · exact Or.inr e.symm
        · exact Or.inl ⟨by omega, b⟩
      · exact Or.inr a.symm
    · rintro (⟨a, b⟩ | a)
      · exact Or.inl ⟨by omega, b⟩
      · exact Or.inr a.symm
  have hK : clKM σ (bt z) := ⟨w2, w3, w7⟩
  have zk : bt z k = true := w4 k hk.1 ((hin k hk.1).mpr (Or.inr rfl))
  refine ⟨w1.1, k, hk, ⟨c1, bt z, hK, zk, fun u u1 u2 => ⟨fun g => ?_, fun g => w4 u (by omega) ((hin u (by omega)).mpr (Or.inl ⟨u1, g⟩))⟩⟩, h0, fun u hu => ⟨fun g => ⟨w1.2 u hu g, fun X x1 x2 x3 => ?_⟩, fun g => g.2 _ hK zk (fun v v1 v2 b => w4 v (by omega) ((hin v (by omega)).mpr (Or.inl ⟨v1, b⟩)))⟩⟩
  · by_cases e : bt q u = true
    · exact e
    · refine absurd ⟨g, (hp u (by omega)).mpr ⟨u2, fun r => e ?_, u1⟩⟩ (w8 u (by omega))
      rw [bt_h hk.1 (by omega), Bool.and_eq_true] at r
      exact r.2
  · exact w5 X x1.1 x1.2.1 (fun v v0 b => (((hin v v0).mp b).elim (fun g => x3 v g.1 (hq.2 v v0 g.2) g.2) (fun g => g ▸ x2))) u hu g
theorem cb_no {σ : Mem} {q k p z : Int} (hk : 0 ≤ k ∧ k < σ (4, 2) 0) (ht : 0 ≤ σ (4, 8) 0) (hp : ∀ u, 0 ≤ u → (bt p u = true ↔ u < σ (4, 2) 0 ∧ ¬ bt (hI q k) u = true ∧ k < u)) (h : clP σ (oI (hI q k) (pI k)) p z) (h0 : ∀ v, 0 ≤ v → v < k → ¬ nxP (clKM σ) (σ (4, 2) 0) q v) (hz : z = -1) (hq : inN (σ (4, 2) 0) q) : ∀ v, 0 ≤ v → v < k + 1 → ¬ nxP (clKM σ) (σ (4, 2) 0) q v := fun v v0 v1 g => by
  by_cases e : v = k
  · subst e
    obtain ⟨W, ⟨w1, w2, w3, w4, w5⟩, w6⟩ := h
    obtain ⟨g1, X, x1, x2, x3⟩ := g
    have i := w5 X x1.1 x1.2.1 (fun u hu b => by
      rw [bt_o, bt_h v0 hu, bt_p v0 hu, Bool.or_eq_true, Bool.and_eq_true, decide_eq_true_eq, decide_eq_true_eq] at b
      rcases b with ⟨a, b⟩ | a
      · by_cases e : v = u
        · exact e ▸ x2
        · exact (x3 u (by omega) (hq.2 u hu b)).mpr b
      · exact a ▸ x2)
    rcases w6 with ⟨a, -, -⟩ | ⟨-, a | ⟨u, u0, a, b⟩⟩
    · have := w1.1.1
      omega
    · exact x1.2.2 (i _ ht a)
    · obtain ⟨b1, b2, b3⟩ := (hp u u0).mp b
      have := (x3 u b3 b1).mp (i u u0 a)
      refine b2 ?_
      rw [bt_h v0 u0, this, decide_eq_true (by omega)]
      rfl
  · exact h0 v v0 (by omega) g
theorem cb_skip {K : (Int → Bool) → Prop} {n q k : Int} (h0 : ∀ v, 0 ≤ v → v < k → ¬ nxP K n q v) (c : bt q k = true) : ∀ v, 0 ≤ v → v < k + 1 → ¬ nxP K n q v := fun v v0 v1 g => by
  by_cases e : v = k
  · subst e
    exact g.1 c
  · exact h0 v v0 (by omega) g
/-- what is to be left out -/
theorem wo_x {n a v : Int} (hn : 0 ≤ n ∧ n ≤ 24) (ha : mk24 a) (hv : 0 ≤ v ∧ v < 24) : ∃ p, mk24 p ∧ (iI (pI n - 1) &&& (iI a ^^^ iI (-1))) &&& iI (-pI (v + 1)) = iI p ∧ ∀ u, 0 ≤ u → (bt p u = true ↔ u < n ∧ ¬ bt a u = true ∧ v < u) := by
  have hp := pI_le hn
  have p24 : (2 : Nat) ^ 24 = 16777216 := by decide
  have p32 : (2 : Nat) ^ 32 = 4294967296 := by decide
  have hn2 : 2 ^ n.toNat ≤ 2 ^ 24 := Nat.pow_le_pow_right (by decide) (by omega)
  have hv2 : 2 ^ (v + 1).toNat ≤ 2 ^ 24 := Nat.pow_le_pow_right (by decide) (by omega)
  have hv3 : 0 < 2 ^ (v + 1).toNat := Nat.pow_pos (by decide)
  have b1 : (iI (pI n - 1)).toBitVec.toNat = 2 ^ n.toNat - 1 := by
    show (BitVec.ofInt 32 (pI n - 1)).toNat = _
    rw [BitVec.toNat_ofInt]
    unfold pI at *
    omega
  have b2 : (iI a ^^^ iI (-1)).toBitVec.toNat = 2 ^ 32 - (a.toNat + 1) := by
    have e1 : (iI a ^^^ iI (-1)).toBitVec = ~~~ (BitVec.ofInt 32 a) := by
      show BitVec.ofInt 32 a ^^^ BitVec.ofInt 32 (-1) = _
      rw [show BitVec.ofInt 32 (-1) = BitVec.allOnes 32 by decide, BitVec.xor_allOnes]
    rw [e1, BitVec.toNat_not, BitVec.toNat_ofInt]
    have := ha.1
    have := ha.2
    omega
  have b3 : (iI (-pI (v + 1))).toBitVec.toNat = 2 ^ 32 - (2 ^ (v + 1).toNat - 1 + 1) := by
    show (BitVec.ofInt 32 (-pI (v + 1))).toNat = _
    rw [BitVec.toNat_ofInt]
    unfold pI at *
    omega
  refine ⟨((((iI (pI n - 1) &&& (iI a ^^^ iI (-1))) &&& iI (-pI (v + 1))).toBitVec.toNat : Nat) : Int), ?_, ?_, fun u hu => ?_⟩
  · have e : ((iI (pI n - 1) &&& (iI a ^^^ iI (-1))) &&& iI (-pI (v + 1))).toBitVec.toNat = ((iI (pI n - 1)).toBitVec.toNat &&& (iI a ^^^ iI (-1)).toBitVec.toNat) &&& (iI (-pI (v + 1))).toBitVec.toNat := rfl
    have l1 := Nat.and_le_left (n := (iI (pI n - 1)).toBitVec.toNat &&& (iI a ^^^ iI (-1)).toBitVec.toNat) (m := (iI (-pI (v + 1))).toBitVec.toNat)
    have l2 := Nat.and_le_left (n := (iI (pI n - 1)).toBitVec.toNat) (m := (iI a ^^^ iI (-1)).toBitVec.toNat)
    unfold mk24
    omega
  · apply Int32.toBitVec_inj.mp
    show _ = BitVec.ofInt 32 _
    apply BitVec.eq_of_toNat_eq
    rw [BitVec.toNat_ofInt]
    have := ((iI (pI n - 1) &&& (iI a ^^^ iI (-1))) &&& iI (-pI (v + 1))).toBitVec.isLt
    omega
  · unfold bt
    rw [Int.toNat_natCast]
    have e : ((iI (pI n - 1) &&& (iI a ^^^ iI (-1))) &&& iI (-pI (v + 1))).toBitVec.toNat = ((iI (pI n - 1)).toBitVec.toNat &&& (iI a ^^^ iI (-1)).toBitVec.toNat) &&& (iI (-pI (v + 1))).toBitVec.toNat := rfl
    rw [e, b1, b2, b3, Nat.testBit_and, Nat.testBit_and, Nat.testBit_two_pow_sub_one, Nat.testBit_two_pow_sub_succ (by have := ha.2; omega), Nat.testBit_two_pow_sub_succ (by omega), Nat.testBit_two_pow_sub_one]
    cases g : a.toNat.testBit u.toNat <;> simp <;> omega

set_option maxHeartbeats 4000000 in
set_option maxRecDepth 100000 in
theorem c_X7_smallest (l : Launch) (D : va_G) (cs : Nat → ClassId) (ad : Ix → Nat) (hap : Apart idsM ad) {σ : Mem} (h : mOk σ) (hEy : mEy σ) : CI l D cs idsM ad yX7_smallest cX7_smallest 1 .int 4 [(.ref (ad (4, 0)))] σ (fun z τ => fdM σ τ ∧ smM σ z) := by
  refine CI.of RX7 hap idsM_nd (by decide) rfl (Nat.le_of_ble_eq_true rfl) ?_
  intro pg ev s0 mi av bl mt cd X K hr
  have hN := h.1
  have hn := hN.1
  have hEe := hEy
  unfold mEy at hEe
  refine zr_aloadn X dX7_smallest_0 rfl ?_
  refine zr_callVV X K (q := (RX7, TX7, 20)) (st := []) (c_X7_findReached l D cs ad hap (σ := σ) h hEy) ⟨tw_919, tw_921, tp_51, tw_8, tw_922⟩ dc_X7_findReached mM_0 rfl rfl rfl rfl rfl (Nat.le_of_ble_eq_true rfl) (by decide) dX7_smallest_1 ?_
  intro τ hfd
  have e7 : τ (4, 7) 0 = σ (4, 7) 0 := congrFun (hfd.1 (4, 7) (by decide)) 0
  have e2 : τ (4, 2) 0 = σ (4, 2) 0 := congrFun (hfd.1 (4, 2) (by decide)) 0
  refine zr_aloadn X dX7_smallest_4 rfl ?_
  refine zr_get X K (C := RX7) (T := TX7) (N := 20) (k := 19) mM_0 rfl rfl ti_7 (by decide) rfl tw_719 rfl dX7_smallest_5 ?_
  refine zr_aloadn X dX7_smallest_8 rfl ?_
  refine zr_get X K (C := RX7) (T := TX7) (N := 20) (k := 6) mM_0 rfl rfl ti_7 (by decide) rfl tw_706 rfl dX7_smallest_9 ?_
  refine zr_iald X K (n := 24) mM_20 rfl (by decide) (by omega) dX7_smallest_12 ?_
  refine zr_iret X hr dX7_smallest_13 ?_
  rw [e7]
  exact ⟨hfd, smM_of hEy hfd (hfd.2.1 _ hEe.1.1 (by omega))⟩

set_option maxHeartbeats 4000000 in
set_option maxRecDepth 100000 in
theorem c_X7_greatest (l : Launch) (D : va_G) (cs : Nat → ClassId) (ad : Ix → Nat) (hap : Apart idsM ad) {σ : Mem} (h : mOk σ) (hEy : mEy σ) : CI l D cs idsM ad yX7_greatest cX7_greatest 3 .int 4 [(.ref (ad (4, 0)))] σ (fun z τ => fdM σ τ ∧ gtM σ z) := by
  refine CI.of RX7 hap idsM_nd (by decide) rfl (Nat.le_of_ble_eq_true rfl) ?_
  intro pg ev s0 mi av bl mt cd X K hr
  have hN := h.1
  have hn := hN.1
  have hEe := hEy
  unfold mEy at hEe
  refine zr_aloadn X dX7_greatest_0 rfl ?_
  refine zr_callVV X K (q := (RX7, TX7, 20)) (st := []) (c_X7_findReached l D cs ad hap (σ := σ) h hEy) ⟨tw_919, tw_921, tp_51, tw_8, tw_922⟩ dc_X7_findReached mM_0 rfl rfl rfl rfl rfl (Nat.le_of_ble_eq_true rfl) (by decide) dX7_greatest_1 ?_
  intro τ hfd
  have e8 : τ (4, 8) 0 = σ (4, 8) 0 := congrFun (hfd.1 (4, 8) (by decide)) 0
  have e2 : τ (4, 2) 0 = σ (4, 2) 0 := congrFun (hfd.1 (4, 2) (by decide)) 0
  refine zr_iconst X dX7_greatest_4 ?_
  refine zr_istoren X dX7_greatest_5 (by decide) rfl ?_
  refine zr_iconst X dX7_greatest_6 ?_
  refine zr_istoren X dX7_greatest_7 (by decide) rfl ?_
  have loop_8 : ∀ (n_8 : Nat) (x : Int) (k : Int), ((0 ≤ k ∧ k ≤ σ (4, 2) 0) ∧ gmI σ τ x k) → (σ (4, 2) 0 - k).toNat < n_8 → Wx pg l ev (rmm 4 0 0) s0 mi av bl mt cd D cs idsM ad (Rg idsM ad) s0.heap 3 (MQ bl (qI D cs idsM ad ((fun z τ => fdM σ τ ∧ gtM σ z))) av s0 0 0 (Rg idsM ad)) 0 0 τ 8 [some (.ref (ad (4, 0))), some (jI x), some (jI k)] [] := by
    intro n_8
    induction n_8 with
    | zero => exact fun x k hinv hn => absurd hn (Nat.not_lt_zero _)
    | succ n_8 ih_8 =>
      intro x k hI_8 hn_8
      have hk0 := hI_8.1
      refine zr_iloadn X dX7_greatest_8 rfl ?_
      refine zr_aloadn X dX7_greatest_9 rfl ?_
      refine zr_get X K (C := RX7) (T := TX7) (N := 20) (k := 1) mM_0 rfl rfl ti_7 (by decide) rfl tw_701 rfl dX7_greatest_10 ?_
      refine zr_icmp_ge X 49 dX7_greatest_13 (by decide) ⟨by omega, by omega⟩ ⟨by omega, by omega⟩ (fun t_13 => ?_) (fun f_13 => ?_)
      · refine zr_iloadn X dX7_greatest_49 rfl ?_
        refine zr_iret X hr dX7_greatest_50 ?_
        have hk : k = σ (4, 2) 0 := by omega
        rw [hk] at hI_8
        exact ⟨hfd, gtM_of hEy hfd hI_8.2⟩
      · have hrk := hfd.2.1 k hk0.1 (by omega)
        have hrk0 := hrk.1.1.1
        have hrk1 := hrk.1.1.2
        refine zr_iloadn X dX7_greatest_16 rfl ?_
        refine zr_aloadn X dX7_greatest_17 rfl ?_
        refine zr_aloadn X dX7_greatest_18 rfl ?_
        refine zr_get X K (C := RX7) (T := TX7) (N := 20) (k := 19) mM_0 rfl rfl ti_7 (by decide) rfl tw_719 rfl dX7_greatest_19 ?_
        refine zr_iloadn X dX7_greatest_22 rfl ?_
        refine zr_iald X K (n := 24) mM_20 rfl (by decide) (by omega) dX7_greatest_23 ?_
        refine zr_aloadn X dX7_greatest_24 rfl ?_
        refine zr_get X K (C := RX7) (T := TX7) (N := 20) (k := 7) mM_0 rfl rfl ti_7 (by decide) rfl tw_707 rfl dX7_greatest_25 ?_
        refine zr_callVI X K (q := (RX7, TX7, 20)) (st := [(jI x)]) (c_X7_isIn l D cs ad hap (σ := τ) (m := τ (4, 20) k) (v := τ (4, 8) 0) ⟨by omega, by omega⟩ ⟨by omega, by omega⟩) ⟨tw_903, tw_905, tp_48, tw_8, tw_906⟩ dc_X7_isIn mM_0 rfl rfl rfl rfl rfl (Nat.le_of_ble_eq_true rfl) (by decide) dX7_greatest_28 ?_
        intro z_ τ_ hp_
        obtain ⟨hτ_, hz_⟩ := hp_
        subst τ_
        subst z_
        refine zr_if_eq X 38 dX7_greatest_31 (by decide) ite01 (fun t_31 => ?_) (fun f_31 => ?_)
        · refine zr_iconst X dX7_greatest_38 ?_
          refine zr_iloadn X dX7_greatest_39 rfl ?_
          refine zr_ishl X dX7_greatest_40 (zb_shl (by omega) (by omega)) ?_
          refine zr_ior X dX7_greatest_41 (zb_or hI_8.2.1.1 (by first | exact (pI_rg (by omega)).1 | decide)) ?_
          refine zr_istoren X dX7_greatest_42 (by decide) rfl ?_
          refine zr_iinc X dX7_greatest_43 rfl (by decide) rfl ?_
          refine zr_goto X 8 dX7_greatest_46 (by decide) ?_
          refine Wx.weak (lo' := [some (.ref (ad (4, 0))), some (jI (oI x (pI k))), some (jI (k + 1))]) ⟨rfl, rfl, rfl, trivial⟩ ?_
          exact ih_8 _ _ ⟨⟨by omega, by omega⟩, gmI_s hI_8.2 ⟨hk0.1, by omega⟩ (Or.inr ⟨rfl, by rw [← e8]; exact ite0 t_31⟩)⟩ (by omega)
        · refine zr_iconst X dX7_greatest_34 ?_
          refine zr_goto X 41 dX7_greatest_35 (by decide) ?_
          refine zr_ior X dX7_greatest_41 (zb_or hI_8.2.1.1 (by first | exact (pI_rg (by omega)).1 | decide)) ?_
          refine zr_istoren X dX7_greatest_42 (by decide) rfl ?_
          refine zr_iinc X dX7_greatest_43 rfl (by decide) rfl ?_
          refine zr_goto X 8 dX7_greatest_46 (by decide) ?_
          refine Wx.weak (lo' := [some (.ref (ad (4, 0))), some (jI (oI x (0))), some (jI (k + 1))]) ⟨rfl, rfl, rfl, trivial⟩ ?_
          exact ih_8 _ _ ⟨⟨by omega, by omega⟩, gmI_s hI_8.2 ⟨hk0.1, by omega⟩ (Or.inl ⟨rfl, by rw [← e8]; exact ite1 f_31⟩)⟩ (by omega)
  refine Wx.weak (lo' := [some (.ref (ad (4, 0))), some (jI 0), some (jI 0)]) ⟨rfl, rfl, rfl, trivial⟩ ?_
  exact loop_8 _ _ _ ⟨⟨by omega, by omega⟩, gmI_0⟩ (Nat.lt_succ_self _)

set_option maxHeartbeats 4000000 in
set_option maxRecDepth 100000 in
theorem c_X7_smallestCut (l : Launch) (D : va_G) (cs : Nat → ClassId) (ad : Ix → Nat) (hap : Apart idsM ad) {σ : Mem} (h : mOk σ) : CI l D cs idsM ad yX7_smallestCut cX7_smallestCut 1 .int 5 [(.ref (ad (4, 0)))] σ (fun z τ => fq σ τ ∧ ((mEn σ ∧ τ (4, 1) 0 = 1) ∨ (mEy σ ∧ τ (4, 1) 0 = 0 ∧ smM σ z))) := by
  refine CI.of RX7 hap idsM_nd (by decide) rfl (Nat.le_of_ble_eq_true rfl) ?_
  intro pg ev s0 mi av bl mt cd X K hr
  refine zr_aloadn X dX7_smallestCut_0 rfl ?_
  refine zr_iconst X dX7_smallestCut_1 ?_
  refine zr_put X K (q := (4, 1)) (C := RX7) (T := TX7) (ty0 := tyX7) (N := 20) (k := 0) mM_0 (fun _ => rfl) (by simp [mset]) rfl rfl ti_7 tyX7_ok nmX7 (by decide) rfl tw_700 rfl rfl rfl (Nat.le_of_ble_eq_true rfl) dX7_smallestCut_2 ?_
  generalize hm_σ1 : mset σ (4, 1) 0 0 = σ1
  have hq1 : fq σ σ1 := fq_set hm_σ1
  have t1 := congrArg (fun μ : Mem => μ (4, 1) 0) hm_σ1
  have h1 := hq1.ok h
  have hN := h1.1
  have hn := hN.1
  have hm := hN.2.1
  have hE := h1.2.2.1
  have hEs := h.2.2.1
  unfold mEn mEy at hE
  have e7 : σ1 (4, 7) 0 = σ (4, 7) 0 := congrFun (hq1 (4, 7) (by decide)) 0
  have e8 : σ1 (4, 8) 0 = σ (4, 8) 0 := congrFun (hq1 (4, 8) (by decide)) 0
  have e2 : σ1 (4, 2) 0 = σ (4, 2) 0 := congrFun (hq1 (4, 2) (by decide)) 0
  have e3 : σ1 (4, 3) 0 = σ (4, 3) 0 := congrFun (hq1 (4, 3) (by decide)) 0
  have e6 : σ1 (4, 6) = σ (4, 6) := hq1 (4, 6) (by decide)
  have e4 : σ1 (4, 4) = σ (4, 4) := hq1 (4, 4) (by decide)
  have e5 : σ1 (4, 5) = σ (4, 5) := hq1 (4, 5) (by decide)
  simp only [mset_same] at t1
  refine zr_aloadn X dX7_smallestCut_5 rfl ?_
  refine zr_get X K (C := RX7) (T := TX7) (N := 20) (k := 6) mM_0 rfl rfl ti_7 (by decide) rfl tw_706 rfl dX7_smallestCut_6 ?_
  refine zr_iconst X dX7_smallestCut_9 ?_
  refine zr_icmp_ne X 21 dX7_smallestCut_10 (by decide) ⟨by omega, by omega⟩ ⟨by omega, by omega⟩ (fun t_10 => ?_) (fun f_10 => ?_)
  · have hEy : mEy σ := hEs.resolve_left (fun q => by unfold mEn at q; omega)
    have hEy1 := hq1.ey hEy
    refine zr_aloadn X dX7_smallestCut_21 rfl ?_
    refine zr_callVI X K (q := (RX7, TX7, 20)) (st := []) (c_X7_smallest l D cs ad hap (σ := σ1) h1 hEy1) ⟨tw_915, tw_917, tp_50, tw_8, tw_918⟩ dc_X7_smallest mM_0 rfl rfl rfl rfl rfl (Nat.le_of_ble_eq_true rfl) (by decide) dX7_smallestCut_22 ?_
    intro z τ2 hsm
    refine zr_iret X hr dX7_smallestCut_25 ?_
    exact ⟨hq1.tr hsm.1.1, Or.inr ⟨hEy, by rw [hsm.1.2.2.2.2]; exact t1.symm, hq1.sm hsm.2⟩⟩
  · have hEn : mEn σ := hEs.resolve_right (fun q => by unfold mEy at q; omega)
    refine zr_aloadn X dX7_smallestCut_13 rfl ?_
    refine zr_iconst X dX7_smallestCut_14 ?_
    refine zr_callVI X K (q := (RX7, TX7, 20)) (st := []) (c_X7_fail l D cs ad hap (σ := σ1) (k := 1)) ⟨tw_769, tw_771, tp_38, tw_8, tw_772⟩ dc_X7_fail mM_0 rfl rfl rfl rfl rfl (Nat.le_of_ble_eq_true rfl) (by decide) dX7_smallestCut_15 ?_
    intro z τ hp
    obtain ⟨hτ, hz⟩ := hp
    have htt : τ (4, 1) 0 = 1 := by rw [hτ, mset_same]
    have hqf := hq1.tr (fq_set hτ.symm)
    refine zr_goto X 25 dX7_smallestCut_18 (by decide) ?_
    refine zr_iret X hr dX7_smallestCut_25 ?_
    exact ⟨hqf, Or.inl ⟨hEn, htt⟩⟩

set_option maxHeartbeats 4000000 in
set_option maxRecDepth 100000 in
theorem c_X7_greatestCut (l : Launch) (D : va_G) (cs : Nat → ClassId) (ad : Ix → Nat) (hap : Apart idsM ad) {σ : Mem} (h : mOk σ) : CI l D cs idsM ad yX7_greatestCut cX7_greatestCut 1 .int 5 [(.ref (ad (4, 0)))] σ (fun z τ => fq σ τ ∧ ((mEn σ ∧ τ (4, 1) 0 = 1) ∨ (mEy σ ∧ τ (4, 1) 0 = 0 ∧ gtM σ z))) := by
  refine CI.of RX7 hap idsM_nd (by decide) rfl (Nat.le_of_ble_eq_true rfl) ?_
  intro pg ev s0 mi av bl mt cd X K hr
  refine zr_aloadn X dX7_greatestCut_0 rfl ?_
  refine zr_iconst X dX7_greatestCut_1 ?_
  refine zr_put X K (q := (4, 1)) (C := RX7) (T := TX7) (ty0 := tyX7) (N := 20) (k := 0) mM_0 (fun _ => rfl) (by simp [mset]) rfl rfl ti_7 tyX7_ok nmX7 (by decide) rfl tw_700 rfl rfl rfl (Nat.le_of_ble_eq_true rfl) dX7_greatestCut_2 ?_
  generalize hm_σ1 : mset σ (4, 1) 0 0 = σ1
  have hq1 : fq σ σ1 := fq_set hm_σ1
  have t1 := congrArg (fun μ : Mem => μ (4, 1) 0) hm_σ1
  have h1 := hq1.ok h
  have hN := h1.1
  have hn := hN.1
  have hm := hN.2.1
  have hE := h1.2.2.1
  have hEs := h.2.2.1
  unfold mEn mEy at hE
  have e7 : σ1 (4, 7) 0 = σ (4, 7) 0 := congrFun (hq1 (4, 7) (by decide)) 0
  have e8 : σ1 (4, 8) 0 = σ (4, 8) 0 := congrFun (hq1 (4, 8) (by decide)) 0
  have e2 : σ1 (4, 2) 0 = σ (4, 2) 0 := congrFun (hq1 (4, 2) (by decide)) 0
  have e3 : σ1 (4, 3) 0 = σ (4, 3) 0 := congrFun (hq1 (4, 3) (by decide)) 0
  have e6 : σ1 (4, 6) = σ (4, 6) := hq1 (4, 6) (by decide)
  have e4 : σ1 (4, 4) = σ (4, 4) := hq1 (4, 4) (by decide)
  have e5 : σ1 (4, 5) = σ (4, 5) := hq1 (4, 5) (by decide)
  simp only [mset_same] at t1
  refine zr_aloadn X dX7_greatestCut_5 rfl ?_
  refine zr_get X K (C := RX7) (T := TX7) (N := 20) (k := 6) mM_0 rfl rfl ti_7 (by decide) rfl tw_706 rfl dX7_greatestCut_6 ?_
  refine zr_iconst X dX7_greatestCut_9 ?_
  refine zr_icmp_ne X 21 dX7_greatestCut_10 (by decide) ⟨by omega, by omega⟩ ⟨by omega, by omega⟩ (fun t_10 => ?_) (fun f_10 => ?_)
  · have hEy : mEy σ := hEs.resolve_left (fun q => by unfold mEn at q; omega)
    have hEy1 := hq1.ey hEy
    refine zr_aloadn X dX7_greatestCut_21 rfl ?_
    refine zr_callVI X K (q := (RX7, TX7, 20)) (st := []) (c_X7_greatest l D cs ad hap (σ := σ1) h1 hEy1) ⟨tw_927, tw_929, tp_52, tw_8, tw_930⟩ dc_X7_greatest mM_0 rfl rfl rfl rfl rfl (Nat.le_of_ble_eq_true rfl) (by decide) dX7_greatestCut_22 ?_
    intro z τ2 hsm
    refine zr_iret X hr dX7_greatestCut_25 ?_
    exact ⟨hq1.tr hsm.1.1, Or.inr ⟨hEy, by rw [hsm.1.2.2.2.2]; exact t1.symm, hq1.gt hsm.2⟩⟩
  · have hEn : mEn σ := hEs.resolve_right (fun q => by unfold mEy at q; omega)
    refine zr_aloadn X dX7_greatestCut_13 rfl ?_
    refine zr_iconst X dX7_greatestCut_14 ?_
    refine zr_callVI X K (q := (RX7, TX7, 20)) (st := []) (c_X7_fail l D cs ad hap (σ := σ1) (k := 1)) ⟨tw_769, tw_771, tp_38, tw_8, tw_772⟩ dc_X7_fail mM_0 rfl rfl rfl rfl rfl (Nat.le_of_ble_eq_true rfl) (by decide) dX7_greatestCut_15 ?_
    intro z τ hp
    obtain ⟨hτ, hz⟩ := hp
    have htt : τ (4, 1) 0 = 1 := by rw [hτ, mset_same]
    have hqf := hq1.tr (fq_set hτ.symm)
    refine zr_goto X 25 dX7_greatestCut_18 (by decide) ?_
    refine zr_iret X hr dX7_greatestCut_25 ?_
    exact ⟨hqf, Or.inl ⟨hEn, htt⟩⟩

set_option maxHeartbeats 4000000 in
set_option maxRecDepth 100000 in
theorem c_X7_cut (l : Launch) (D : va_G) (cs : Nat → ClassId) (ad : Ix → Nat) (hap : Apart idsM ad) {σ : Mem} (h : mOk σ) {i : Int} (hi : rg i) : CI l D cs idsM ad yX7_cut cX7_cut 2 .int 1 [(.ref (ad (4, 0))), (jI i)] σ (fun z τ => fq σ τ ∧ ((¬ (0 ≤ i ∧ i < σ (4, 15) 0) ∧ τ (4, 1) 0 = 1) ∨ ((0 ≤ i ∧ i < σ (4, 15) 0) ∧ τ (4, 1) 0 = 0 ∧ z = σ (4, 14) i))) := by
  refine CI.of RX7 hap idsM_nd (by decide) rfl (Nat.le_of_ble_eq_true rfl) ?_
  intro pg ev s0 mi av bl mt cd X K hr
  refine zr_aloadn X dX7_cut_0 rfl ?_
  refine zr_iconst X dX7_cut_1 ?_
  refine zr_put X K (q := (4, 1)) (C := RX7) (T := TX7) (ty0 := tyX7) (N := 20) (k := 0) mM_0 (fun _ => rfl) (by simp [mset]) rfl rfl ti_7 tyX7_ok nmX7 (by decide) rfl tw_700 rfl rfl rfl (Nat.le_of_ble_eq_true rfl) dX7_cut_2 ?_
  generalize hm_σ1 : mset σ (4, 1) 0 0 = σ1
  have hq1 : fq σ σ1 := fq_set hm_σ1
  have t1 := congrArg (fun μ : Mem => μ (4, 1) 0) hm_σ1
  have h1 := hq1.ok h
  have hN := h1.1
  have hn := hN.1
  have hm := hN.2.1
  have hE := h1.2.2.1
  have hEs := h.2.2.1
  unfold mEn mEy at hE
  have e7 : σ1 (4, 7) 0 = σ (4, 7) 0 := congrFun (hq1 (4, 7) (by decide)) 0
  have e8 : σ1 (4, 8) 0 = σ (4, 8) 0 := congrFun (hq1 (4, 8) (by decide)) 0
  have e2 : σ1 (4, 2) 0 = σ (4, 2) 0 := congrFun (hq1 (4, 2) (by decide)) 0
  have e3 : σ1 (4, 3) 0 = σ (4, 3) 0 := congrFun (hq1 (4, 3) (by decide)) 0
  have e6 : σ1 (4, 6) = σ (4, 6) := hq1 (4, 6) (by decide)
  have e4 : σ1 (4, 4) = σ (4, 4) := hq1 (4, 4) (by decide)
  have e5 : σ1 (4, 5) = σ (4, 5) := hq1 (4, 5) (by decide)
  simp only [mset_same] at t1
  have hi1 := hi.1
  have hi2 := hi.2
  have e15 : σ1 (4, 15) 0 = σ (4, 15) 0 := congrFun (hq1 (4, 15) (by decide)) 0
  have hcm := h1.2.2.2.2.1
  refine zr_iloadn X dX7_cut_5 rfl ?_
  refine zr_if_lt X 26 dX7_cut_6 (by decide) ⟨by omega, by omega⟩ (fun t_6 => ?_) (fun f_6 => ?_)
  · refine zr_aloadn X dX7_cut_26 rfl ?_
    refine zr_iconst X dX7_cut_27 ?_
    refine zr_callVI X K (q := (RX7, TX7, 20)) (st := []) (c_X7_fail l D cs ad hap (σ := σ1) (k := 1)) ⟨tw_769, tw_771, tp_38, tw_8, tw_772⟩ dc_X7_fail mM_0 rfl rfl rfl rfl rfl (Nat.le_of_ble_eq_true rfl) (by decide) dX7_cut_28 ?_
    intro z τ hp
    obtain ⟨hτ, hz⟩ := hp
    have htt : τ (4, 1) 0 = 1 := by rw [hτ, mset_same]
    have hqf := hq1.tr (fq_set hτ.symm)
    refine zr_iret X hr dX7_cut_31 ?_
    exact ⟨hqf, Or.inl ⟨by omega, htt⟩⟩
  · refine zr_iloadn X dX7_cut_9 rfl ?_
    refine zr_aloadn X dX7_cut_10 rfl ?_
    refine zr_get X K (C := RX7) (T := TX7) (N := 20) (k := 14) mM_0 rfl rfl ti_7 (by decide) rfl tw_714 rfl dX7_cut_11 ?_
    refine zr_icmp_ge X 26 dX7_cut_14 (by decide) ⟨by omega, by omega⟩ ⟨by omega, by omega⟩ (fun t_14 => ?_) (fun f_14 => ?_)
    · refine zr_aloadn X dX7_cut_26 rfl ?_
      refine zr_iconst X dX7_cut_27 ?_
      refine zr_callVI X K (q := (RX7, TX7, 20)) (st := []) (c_X7_fail l D cs ad hap (σ := σ1) (k := 1)) ⟨tw_769, tw_771, tp_38, tw_8, tw_772⟩ dc_X7_fail mM_0 rfl rfl rfl rfl rfl (Nat.le_of_ble_eq_true rfl) (by decide) dX7_cut_28 ?_
      intro z τ hp
      obtain ⟨hτ, hz⟩ := hp
      have htt : τ (4, 1) 0 = 1 := by rw [hτ, mset_same]
      have hqf := hq1.tr (fq_set hτ.symm)
      refine zr_iret X hr dX7_cut_31 ?_
      exact ⟨hqf, Or.inl ⟨by omega, htt⟩⟩
    · refine zr_aloadn X dX7_cut_17 rfl ?_
      refine zr_get X K (C := RX7) (T := TX7) (N := 20) (k := 13) mM_0 rfl rfl ti_7 (by decide) rfl tw_713 rfl dX7_cut_18 ?_
      refine zr_iloadn X dX7_cut_21 rfl ?_
      refine zr_iald X K (n := 300) mM_14 rfl (by decide) (by omega) dX7_cut_22 ?_
      refine zr_goto X 31 dX7_cut_23 (by decide) ?_
      refine zr_iret X hr dX7_cut_31 ?_
      exact ⟨hq1, Or.inr ⟨by omega, t1.symm, congrFun (hq1 (4, 14) (by decide)) i⟩⟩

set_option maxHeartbeats 4000000 in
set_option maxRecDepth 100000 in
theorem c_X7_closed (l : Launch) (D : va_G) (cs : Nat → ClassId) (ad : Ix → Nat) (hap : Apart idsM ad) {σ : Mem} (hN : mNet σ) (hrt : rtM σ) (hE : mEy σ) {q p : Int} (hq : inN (σ (4, 2) 0) q) (hp : mk24 p) : CI l D cs idsM ad yX7_closed cX7_closed 5 .int 1 [(.ref (ad (4, 0))), (jI q), (jI p)] σ (fun z τ => τ = σ ∧ clP σ q p z) := by
  refine CI.of RX7 hap idsM_nd (by decide) rfl (Nat.le_of_ble_eq_true rfl) ?_
  intro pg ev s0 mi av bl mt cd X K hr
  have hn := hN.1
  have hEe := hE
  unfold mEy at hEe
  have hq0 := hq.1.1
  have hq1 := hq.1.2
  have hrs := hrt _ hEe.1.1 hEe.1.2
  refine zr_aloadn X dX7_closed_0 rfl ?_
  refine zr_get X K (C := RX7) (T := TX7) (N := 20) (k := 19) mM_0 rfl rfl ti_7 (by decide) rfl tw_719 rfl dX7_closed_1 ?_
  refine zr_aloadn X dX7_closed_4 rfl ?_
  refine zr_get X K (C := RX7) (T := TX7) (N := 20) (k := 6) mM_0 rfl rfl ti_7 (by decide) rfl tw_706 rfl dX7_closed_5 ?_
  refine zr_iald X K (n := 24) mM_20 rfl (by decide) (by omega) dX7_closed_8 ?_
  refine zr_istoren X dX7_closed_9 (by decide) rfl ?_
  refine zr_iconst X dX7_closed_10 ?_
  refine zr_istore X dX7_closed_11 (by decide) rfl ?_
  have loop_13 : ∀ (n_13 : Nat) (w : Int) (k : Int), ((0 ≤ k ∧ k ≤ σ (4, 2) 0) ∧ clI σ q w k) → (σ (4, 2) 0 - k).toNat < n_13 → Wx pg l ev (rmm 1 0 0) s0 mi av bl mt cd D cs idsM ad (Rg idsM ad) s0.heap 5 (MQ bl (qI D cs idsM ad ((fun z τ => τ = σ ∧ clP σ q p z))) av s0 0 0 (Rg idsM ad)) 0 0 σ 13 [some (.ref (ad (4, 0))), some (jI q), some (jI p), some (jI w), some (jI k)] [] := by
    intro n_13
    induction n_13 with
    | zero => exact fun w k hinv hn => absurd hn (Nat.not_lt_zero _)
    | succ n_13 ih_13 =>
      intro w k hI_13 hn_13
      have hk0 := hI_13.1
      have hw0 := hI_13.2.1.1
      have hw1 := hI_13.2.1.2
      refine zr_iload X dX7_closed_13 rfl ?_
      refine zr_aloadn X dX7_closed_15 rfl ?_
      refine zr_get X K (C := RX7) (T := TX7) (N := 20) (k := 1) mM_0 rfl rfl ti_7 (by decide) rfl tw_701 rfl dX7_closed_16 ?_
      refine zr_icmp_ge X 52 dX7_closed_19 (by decide) ⟨by omega, by omega⟩ ⟨by omega, by omega⟩ (fun t_19 => ?_) (fun f_19 => ?_)
      · have hk : k = σ (4, 2) 0 := by omega
        have hend := clI_end hN hrt hEe.1 hq (hk ▸ hI_13.2)
        refine zr_aloadn X dX7_closed_52 rfl ?_
        refine zr_iloadn X dX7_closed_53 rfl ?_
        refine zr_aloadn X dX7_closed_54 rfl ?_
        refine zr_get X K (C := RX7) (T := TX7) (N := 20) (k := 7) mM_0 rfl rfl ti_7 (by decide) rfl tw_707 rfl dX7_closed_55 ?_
        refine zr_callVI X K (q := (RX7, TX7, 20)) (st := []) (c_X7_isIn l D cs ad hap (σ := σ) (m := w) (v := σ (4, 8) 0) ⟨hw0, by omega⟩ ⟨by omega, by omega⟩) ⟨tw_903, tw_905, tp_48, tw_8, tw_906⟩ dc_X7_isIn mM_0 rfl rfl rfl rfl rfl (Nat.le_of_ble_eq_true rfl) (by decide) dX7_closed_58 ?_
        intro z_ τ_ hp_
        obtain ⟨hτ_, hz_⟩ := hp_
        subst τ_
        subst z_
        refine zr_if_ne X 70 dX7_closed_61 (by decide) ite01 (fun t_61 => ?_) (fun f_61 => ?_)
        · refine zr_iconst X dX7_closed_70 ?_
          refine zr_goto X 75 dX7_closed_71 (by decide) ?_
          refine zr_iret X hr dX7_closed_75 ?_
          first | exact ⟨rfl, w, hend, Or.inr ⟨rfl, Or.inl (ite1 t_61)⟩⟩ | exact ⟨rfl, w, hend, Or.inr ⟨rfl, Or.inr (Classical.byContradiction fun g => f_67 (aI_0.mpr fun u hu z => g ⟨u, hu, z.1, z.2⟩))⟩⟩
        · refine zr_iloadn X dX7_closed_64 rfl ?_
          refine zr_iloadn X dX7_closed_65 rfl ?_
          refine zr_iand X dX7_closed_66 (zb_and hw0 hp.1) ?_
          refine zr_if_eq X 74 dX7_closed_67 (by decide) ⟨by have := (aI_rg (b := p) hI_13.2.1).1; omega, by have := (aI_rg (b := p) hI_13.2.1).2; omega⟩ (fun t_67 => ?_) (fun f_67 => ?_)
          · refine zr_iloadn X dX7_closed_74 rfl ?_
            refine zr_iret X hr dX7_closed_75 ?_
            exact ⟨rfl, w, hend, Or.inl ⟨rfl, ite0 f_61, aI_0.mp t_67⟩⟩
          · refine zr_iconst X dX7_closed_70 ?_
            refine zr_goto X 75 dX7_closed_71 (by decide) ?_
            refine zr_iret X hr dX7_closed_75 ?_
            first | exact ⟨rfl, w, hend, Or.inr ⟨rfl, Or.inl (ite1 t_61)⟩⟩ | exact ⟨rfl, w, hend, Or.inr ⟨rfl, Or.inr (Classical.byContradiction fun g => f_67 (aI_0.mpr fun u hu z => g ⟨u, hu, z.1, z.2⟩))⟩⟩
      · have hrk := hrt k hk0.1 (by omega)
        have hrk0 := hrk.1.1.1
        refine zr_iloadn X dX7_closed_22 rfl ?_
        refine zr_aloadn X dX7_closed_23 rfl ?_
        refine zr_iloadn X dX7_closed_24 rfl ?_
        refine zr_iload X dX7_closed_25 rfl ?_
        refine zr_callVI X K (q := (RX7, TX7, 20)) (st := [(jI w)]) (c_X7_isIn l D cs ad hap (σ := σ) (m := q) (v := k) ⟨hq0, by omega⟩ ⟨by omega, by omega⟩) ⟨tw_903, tw_905, tp_48, tw_8, tw_906⟩ dc_X7_isIn mM_0 rfl rfl rfl rfl rfl (Nat.le_of_ble_eq_true rfl) (by decide) dX7_closed_27 ?_
        intro z_ τ_ hp_
        obtain ⟨hτ_, hz_⟩ := hp_
        subst τ_
        subst z_
        refine zr_if_eq X 43 dX7_closed_30 (by decide) ite01 (fun t_30 => ?_) (fun f_30 => ?_)
        · refine zr_iconst X dX7_closed_43 ?_
          refine zr_ior X dX7_closed_44 (zb_or hw0 (by first | exact hrk0 | decide)) ?_
          refine zr_istoren X dX7_closed_45 (by decide) rfl ?_
          refine zr_iinc X dX7_closed_46 rfl (by decide) rfl ?_
          refine zr_goto X 13 dX7_closed_49 (by decide) ?_
          refine Wx.weak (lo' := [some (.ref (ad (4, 0))), some (jI q), some (jI p), some (jI (oI w (0))), some (jI (k + 1))]) ⟨rfl, rfl, rfl, rfl, rfl, trivial⟩ ?_
          exact ih_13 _ _ ⟨⟨by omega, by omega⟩, clI_s hI_13.2 hk0.1 hrk.1.1 (Or.inr ⟨rfl, ite0 t_30⟩)⟩ (by omega)
        · refine zr_aloadn X dX7_closed_33 rfl ?_
          refine zr_get X K (C := RX7) (T := TX7) (N := 20) (k := 19) mM_0 rfl rfl ti_7 (by decide) rfl tw_719 rfl dX7_closed_34 ?_
          refine zr_iload X dX7_closed_37 rfl ?_
          refine zr_iald X K (n := 24) mM_20 rfl (by decide) (by omega) dX7_closed_39 ?_
          refine zr_goto X 44 dX7_closed_40 (by decide) ?_
          refine zr_ior X dX7_closed_44 (zb_or hw0 (by first | exact hrk0 | decide)) ?_
          refine zr_istoren X dX7_closed_45 (by decide) rfl ?_
          refine zr_iinc X dX7_closed_46 rfl (by decide) rfl ?_
          refine zr_goto X 13 dX7_closed_49 (by decide) ?_
          refine Wx.weak (lo' := [some (.ref (ad (4, 0))), some (jI q), some (jI p), some (jI (oI w (σ (4, 20) k))), some (jI (k + 1))]) ⟨rfl, rfl, rfl, rfl, rfl, trivial⟩ ?_
          exact ih_13 _ _ ⟨⟨by omega, by omega⟩, clI_s hI_13.2 hk0.1 hrk.1.1 (Or.inl ⟨rfl, ite1 f_30⟩)⟩ (by omega)
  refine Wx.weak (lo' := [some (.ref (ad (4, 0))), some (jI q), some (jI p), some (jI (σ (4, 20) (σ (4, 7) 0))), some (jI 0)]) ⟨rfl, rfl, rfl, rfl, rfl, trivial⟩ ?_
  exact loop_13 _ _ _ ⟨⟨by omega, by omega⟩, clI_0 hrs.1.1⟩ (Nat.lt_succ_self _)

theorem zb_sh2 {v : Int} (h0 : 0 ≤ v) (h : v < 24) : iI 2 <<< (iI v &&& 31) = iI (pI (v + 1)) := by
  obtain ⟨n, rfl⟩ := nat_of h0
  have h1 : ∀ n : Fin 24, iI 2 <<< (iI (n.val : Int) &&& 31) = iI (pI ((n.val : Int) + 1)) := by decide +kernel
  exact h1 ⟨n, by omega⟩
set_option maxHeartbeats 4000000 in
set_option maxRecDepth 100000 in
theorem c_X7_cutBehind (l : Launch) (D : va_G) (cs : Nat → ClassId) (ad : Ix → Nat) (hap : Apart idsM ad) {σ : Mem} (hN : mNet σ) (hrt : rtM σ) (hE : mEy σ) {q : Int} (hq : inN (σ (4, 2) 0) q) : CI l D cs idsM ad yX7_cutBehind cX7_cutBehind 5 .int 2 [(.ref (ad (4, 0))), (jI q)] σ (fun z τ => τ = σ ∧ ((z = -1 ∧ nxN (clKM σ) (σ (4, 2) 0) q) ∨ nxY (clKM σ) (σ (4, 2) 0) q z)) := by
  refine CI.of RX7 hap idsM_nd (by decide) rfl (Nat.le_of_ble_eq_true rfl) ?_
  intro pg ev s0 mi av bl mt cd X K hr
  have hn := hN.1
  have hEe := hE
  unfold mEy at hEe
  have hq0 := hq.1.1
  have hq1 := hq.1.2
  refine zr_iconst X dX7_cutBehind_0 ?_
  refine zr_istoren X dX7_cutBehind_1 (by decide) rfl ?_
  have loop_2 : ∀ (n_2 : Nat) (k : Int), ((0 ≤ k ∧ k ≤ σ (4, 2) 0) ∧ ∀ v, 0 ≤ v → v < k → ¬ nxP (clKM σ) (σ (4, 2) 0) q v) → (σ (4, 2) 0 - k).toNat < n_2 → Wx pg l ev (rmm 2 0 0) s0 mi av bl mt cd D cs idsM ad (Rg idsM ad) s0.heap 5 (MQ bl (qI D cs idsM ad ((fun z τ => τ = σ ∧ ((z = -1 ∧ nxN (clKM σ) (σ (4, 2) 0) q) ∨ nxY (clKM σ) (σ (4, 2) 0) q z)))) av s0 0 0 (Rg idsM ad)) 0 0 σ 2 [some (.ref (ad (4, 0))), some (jI q), some (jI k), none, none] [] := by
    intro n_2
    induction n_2 with
    | zero => exact fun k hinv hn => absurd hn (Nat.not_lt_zero _)
    | succ n_2 ih_2 =>
      intro k hI_2 hn_2
      have hk0 := hI_2.1
      refine zr_iloadn X dX7_cutBehind_2 rfl ?_
      refine zr_aloadn X dX7_cutBehind_3 rfl ?_
      refine zr_get X K (C := RX7) (T := TX7) (N := 20) (k := 1) mM_0 rfl rfl ti_7 (by decide) rfl tw_701 rfl dX7_cutBehind_4 ?_
      refine zr_icmp_ge X 71 dX7_cutBehind_7 (by decide) ⟨by omega, by omega⟩ ⟨by omega, by omega⟩ (fun t_7 => ?_) (fun f_7 => ?_)
      · refine zr_iconst X dX7_cutBehind_71 ?_
        refine zr_iret X hr dX7_cutBehind_72 ?_
        exact ⟨rfl, Or.inl ⟨rfl, fun v v0 v1 => hI_2.2 v v0 (by omega)⟩⟩
      · obtain ⟨p, hp1, hp2, hp3⟩ := wo_x (n := σ (4, 2) 0) (a := hI q k) (v := k) ⟨by omega, by omega⟩ (hI_le hq.1) ⟨hk0.1, by omega⟩
        refine zr_aloadn X dX7_cutBehind_10 rfl ?_
        refine zr_iloadn X dX7_cutBehind_11 rfl ?_
        refine zr_iloadn X dX7_cutBehind_12 rfl ?_
        refine zr_callVI X K (q := (RX7, TX7, 20)) (st := []) (c_X7_isIn l D cs ad hap (σ := σ) (m := q) (v := k) ⟨hq0, by omega⟩ ⟨by omega, by omega⟩) ⟨tw_903, tw_905, tp_48, tw_8, tw_906⟩ dc_X7_isIn mM_0 rfl rfl rfl rfl rfl (Nat.le_of_ble_eq_true rfl) (by decide) dX7_cutBehind_13 ?_
        intro z_ τ_ hp_
        obtain ⟨hτ_, hz_⟩ := hp_
        subst τ_
        subst z_
        refine zr_if_eq X 22 dX7_cutBehind_16 (by decide) ite01 (fun t_16 => ?_) (fun f_16 => ?_)
        · refine zr_iloadn X dX7_cutBehind_22 rfl ?_
          refine zr_iloadn X dX7_cutBehind_23 rfl ?_
          refine zr_ishr X dX7_cutBehind_24 (zb_shr hq0 (by omega) (by omega) (by omega)) ?_
          refine zr_iloadn X dX7_cutBehind_25 rfl ?_
          refine zr_ishl X dX7_cutBehind_26 (zb_hi hq.1 (by omega) (by omega)) ?_
          refine zr_istoren X dX7_cutBehind_27 (by decide) rfl ?_
          refine zr_aloadn X dX7_cutBehind_28 rfl ?_
          refine zr_iloadn X dX7_cutBehind_29 rfl ?_
          refine zr_iconst X dX7_cutBehind_30 ?_
          refine zr_iloadn X dX7_cutBehind_31 rfl ?_
          refine zr_ishl X dX7_cutBehind_32 (zb_shl (by omega) (by omega)) ?_
          refine zr_ior X dX7_cutBehind_33 (zb_or (hI_le hq.1).1 (pI_rg (by omega)).1) ?_
          refine zr_iconst X dX7_cutBehind_34 ?_
          refine zr_aloadn X dX7_cutBehind_35 rfl ?_
          refine zr_get X K (C := RX7) (T := TX7) (N := 20) (k := 1) mM_0 rfl rfl ti_7 (by decide) rfl tw_701 rfl dX7_cutBehind_36 ?_
          refine zr_ishl X dX7_cutBehind_39 (zb_shl (by omega) (by omega)) ?_
          refine zr_iconst X dX7_cutBehind_40 ?_
          refine zr_isub X dX7_cutBehind_41 ?_
          refine zr_iloadn X dX7_cutBehind_42 rfl ?_
          refine zr_iconst X dX7_cutBehind_43 ?_
          refine zr_ixor X dX7_cutBehind_44 (iI_self _).symm ?_
          refine zr_iand X dX7_cutBehind_45 (iI_self _).symm ?_
          refine zr_iconst X dX7_cutBehind_46 ?_
          refine zr_iloadn X dX7_cutBehind_47 rfl ?_
          refine zr_ishl X dX7_cutBehind_48 (zb_sh2 (by omega) (by omega)) ?_
          refine zr_ineg X dX7_cutBehind_49 ?_
          refine zr_iand (z := iI (p)) X dX7_cutBehind_50 (by rw [iI_self, iI_self]; exact hp2) ?_
          refine zr_callVI X K (q := (RX7, TX7, 20)) (st := []) (c_X7_closed l D cs ad hap (σ := σ) hN hrt hE (q := oI (hI q k) (pI k)) (p := p) ⟨oI_lt (hI_le hq.1).2 (pI_rg (by omega)).2, fun v v0 b => by
                rw [bt_o, Bool.or_eq_true, bt_h hk0.1 v0, bt_p hk0.1 v0, Bool.and_eq_true] at b
                simp only [decide_eq_true_eq] at b
                exact b.elim (fun b => hq.2 v v0 b.2) (fun b => by omega)⟩ hp1) ⟨tw_935, tw_937, tp_53, tw_8, tw_938⟩ dc_X7_closed mM_0 rfl rfl rfl rfl rfl (Nat.le_of_ble_eq_true rfl) (by decide) dX7_cutBehind_51 ?_
          intro z τ_ hp_
          obtain ⟨hτ_, hcl⟩ := hp_
          subst τ_
          refine zr_istore X dX7_cutBehind_54 (by decide) rfl ?_
          refine zr_iload X dX7_cutBehind_56 rfl ?_
          refine zr_iconst X dX7_cutBehind_58 ?_
          refine zr_icmp_eq X 65 dX7_cutBehind_59 (by decide) (cl_rg hcl) ⟨by decide, by decide⟩ (fun t_59 => ?_) (fun f_59 => ?_)
          · refine zr_iinc X dX7_cutBehind_65 rfl (by decide) rfl ?_
            refine zr_goto X 2 dX7_cutBehind_68 (by decide) ?_
            refine Wx.weak (lo' := [some (.ref (ad (4, 0))), some (jI q), some (jI (k + 1)), none, none]) ⟨rfl, rfl, rfl, trivial⟩ ?_
            exact ih_2 _ ⟨⟨by omega, by omega⟩, cb_no ⟨hk0.1, by omega⟩ hEe.2.1.1 hp3 hcl hI_2.2 (by omega) hq⟩ (by omega)
          · refine zr_iload X dX7_cutBehind_62 rfl ?_
            refine zr_iret X hr dX7_cutBehind_64 ?_
            exact ⟨rfl, Or.inr (cb_yes ⟨hk0.1, by omega⟩ hp3 hcl hI_2.2 (ite0 t_16) (by omega) hq)⟩
        · refine zr_goto X 65 dX7_cutBehind_19 (by decide) ?_
          refine zr_iinc X dX7_cutBehind_65 rfl (by decide) rfl ?_
          refine zr_goto X 2 dX7_cutBehind_68 (by decide) ?_
          refine Wx.weak (lo' := [some (.ref (ad (4, 0))), some (jI q), some (jI (k + 1)), none, none]) ⟨rfl, rfl, rfl, trivial⟩ ?_
          exact ih_2 _ ⟨⟨by omega, by omega⟩, cb_skip hI_2.2 (ite1 f_16)⟩ (by omega)
  refine Wx.weak (lo' := [some (.ref (ad (4, 0))), some (jI q), some (jI 0), none, none]) ⟨rfl, rfl, rfl, trivial⟩ ?_
  exact loop_2 _ _ ⟨⟨by omega, by omega⟩, fun v a b => by omega⟩ (Nat.lt_succ_self _)
