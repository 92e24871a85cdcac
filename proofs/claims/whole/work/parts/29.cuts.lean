/-! THE CLASS: all minimum cuts -/
def hI (m v : Int) : Int := ((m.toNat / 2 ^ v.toNat * 2 ^ v.toNat : Nat) : Int)
theorem hI_le {m v : Int} (hm : mk24 m) : mk24 (hI m v) := by
  have := Nat.div_mul_le_self m.toNat (2 ^ v.toNat)
  unfold hI mk24 at *
  omega
theorem zb_hi {m v : Int} (hm : mk24 m) (h0 : 0 ≤ v) (h : v < 31) : iI (sI m v) <<< (iI v &&& 31) = iI (hI m v) := by
  have hl := Nat.div_mul_le_self m.toNat (2 ^ v.toNat)
  obtain ⟨n, rfl⟩ := nat_of h0
  exact pk_shlN (n := m.toNat / 2 ^ (n : Int).toNat) (nI n &&& 31) n (zb_sm (by omega)) (by
    unfold mk24 at hm
    rw [Int.toNat_natCast] at hl ⊢
    have : (2 : Nat) ^ 32 = 4294967296 := by decide
    omega)
theorem bt_h {m v u : Int} (hv : 0 ≤ v) (hu : 0 ≤ u) : bt (hI m v) u = (decide (v ≤ u) && bt m u) := by
  unfold bt hI
  rw [Int.toNat_natCast, Nat.testBit_mul_two_pow, Nat.testBit_div_two_pow]
  by_cases q : v ≤ u
  · rw [decide_eq_true (show v.toNat ≤ u.toNat by omega), decide_eq_true q, show u.toNat - v.toNat + v.toNat = u.toNat by omega]
  · rw [decide_eq_false (show ¬ v.toNat ≤ u.toNat by omega), decide_eq_false q]
    rfl
theorem sI_eq {a b v : Int} (hv : 0 ≤ v) : sI a v = sI b v ↔ ∀ u, v ≤ u → bt a u = bt b u := by
  unfold sI bt
  constructor
  · intro h u hu
    have h : a.toNat / 2 ^ v.toNat = b.toNat / 2 ^ v.toNat := by omega
    have := congrArg (fun x => Nat.testBit x (u.toNat - v.toNat)) h
    simp only [Nat.testBit_div_two_pow] at this
    rwa [show u.toNat - v.toNat + v.toNat = u.toNat by omega] at this
  · intro h
    refine congrArg Int.ofNat (Nat.eq_of_testBit_eq fun i => ?_)
    rw [Nat.testBit_div_two_pow, Nat.testBit_div_two_pow]
    have := h ((i + v.toNat : Nat) : Int) (by omega)
    rwa [Int.toNat_natCast] at this
theorem sr_rg {m v : Int} (h : m < 2147483648) : rg (sI m v) := ⟨by have := (sI_rg (v := v) h).1; omega, (sI_rg h).2⟩
/-- the next set in a family of sets -/
def nxP (K : (Int → Bool) → Prop) (n q v : Int) : Prop := ¬ bt q v = true ∧ ∃ X, K X ∧ X v = true ∧ ∀ u, v < u → u < n → (X u = true ↔ bt q u = true)
def nxY (K : (Int → Bool) → Prop) (n q y : Int) : Prop := mk24 y ∧ ∃ v, (0 ≤ v ∧ v < n) ∧ nxP K n q v ∧ (∀ w, 0 ≤ w → w < v → ¬ nxP K n q w) ∧ ∀ w, 0 ≤ w → (bt y w = true ↔ w < n ∧ ∀ X, K X → X v = true → (∀ u, v < u → u < n → bt q u = true → X u = true) → X w = true)
def nxN (K : (Int → Bool) → Prop) (n q : Int) : Prop := ∀ v, 0 ≤ v → v < n → ¬ nxP K n q v
theorem nxY_one {K : (Int → Bool) → Prop} {n q y z : Int} (h : nxY K n q y) (k : nxY K n q z) : y = z := by
  obtain ⟨h0, v, hv, h1, h2, h3⟩ := h
  obtain ⟨k0, w, hw, k1, k2, k3⟩ := k
  have e : v = w := by
    by_cases a : v < w
    · exact absurd h1 (k2 v hv.1 a)
    · by_cases b : w < v
      · exact absurd k1 (h2 w hw.1 b)
      · omega
  subst e
  exact bt_ext h0.1 k0.1 fun u hu => by
    have := (h3 u hu).trans (k3 u hu).symm
    cases h : bt y u <;> cases k : bt z u <;> simp_all
theorem nxY_no {K : (Int → Bool) → Prop} {n q y : Int} (h : nxY K n q y) : ¬ nxN K n q := fun k => by
  obtain ⟨-, v, hv, h1, -⟩ := h
  exact k v hv.1 hv.2 h1
theorem nxY_pos {K : (Int → Bool) → Prop} {n q y : Int} (h : nxY K n q y) : y ≠ 0 := fun e => by
  obtain ⟨-, v, hv, -, -, h3⟩ := h
  have := (h3 v hv.1).mpr ⟨hv.2, fun X _ x _ => x⟩
  rw [e] at this
  unfold bt at this
  simp at this
theorem nxY_in {K : (Int → Bool) → Prop} {n q y : Int} (h : nxY K n q y) : mk24 y ∧ ∀ v, 0 ≤ v → bt y v = true → v < n := by
  obtain ⟨h0, v, hv, -, -, h3⟩ := h
  exact ⟨h0, fun u hu b => ((h3 u hu).mp b).1⟩
theorem nx_cong {K L : (Int → Bool) → Prop} (e : ∀ X, K X ↔ L X) : K = L := funext fun X => propext (e X)
/-- the cuts that are closed -/
def clK (σ : Mem) (s t : Int) (X : Int → Bool) : Prop := clo σ 0 X ∧ X s = true ∧ ¬ X t = true
def s3 (σ τ : Mem) : Prop := ∀ g k : Nat, g ≠ 3 → τ (g, k) = σ (g, k)
theorem s3.clo {σ τ : Mem} (e : s3 σ τ) {X : Int → Bool} : clo τ 0 X ↔ clo σ 0 X := ⟨fun h => clo_same (e 0 1 (by decide)).symm (e 0 2 (by decide)).symm (e 0 3 (by decide)).symm (e _ 2 (by omega)).symm (e _ 3 (by omega)).symm h, fun h => clo_same (e 0 1 (by decide)) (e 0 2 (by decide)) (e 0 3 (by decide)) (e _ 2 (by omega)) (e _ 3 (by omega)) h⟩
theorem s3.rc {σ τ : Mem} (e : s3 σ τ) {x z : Int} : rcP τ 0 x z ↔ rcP σ 0 x z := by
  unfold rcP
  constructor
  · rintro ⟨a, b, c, d⟩
    exact ⟨a, b, e.clo.mp c, fun X hX => d X (e.clo.mpr hX)⟩
  · rintro ⟨a, b, c, d⟩
    exact ⟨a, b, e.clo.mpr c, fun X hX => d X (e.clo.mp hX)⟩
theorem s3.net {σ τ : Mem} (e : s3 σ τ) (h : NetOk σ) : NetOk τ := by
  unfold NetOk at h ⊢
  rw [e 0 0 (by decide), e 0 1 (by decide), e 0 2 (by decide), e 0 3 (by decide)]
  exact h
theorem s3.fl {σ τ : Mem} (e : s3 σ τ) (h : FlOk σ 0) : FlOk τ 0 := by
  unfold FlOk at h ⊢
  rw [e 0 1 (by decide), e _ 2 (by omega), e _ 3 (by omega)]
  exact h
theorem s3.k {σ τ : Mem} (e : s3 σ τ) {s t : Int} : clK τ s t = clK σ s t := nx_cong fun X => ⟨fun h => ⟨e.clo.mp h.1, h.2⟩, fun h => ⟨e.clo.mpr h.1, h.2⟩⟩
theorem s3.tr {σ τ υ : Mem} (e : s3 σ τ) (f : s3 τ υ) : s3 σ υ := fun g k hg => (f g k hg).trans (e g k hg)
theorem s3.set {σ : Mem} {k : Nat} {z x : Int} : s3 σ (mset σ (3, k) z x) := fun g j hg => mset_id (fun e => hg (congrArg Prod.fst e))
/-- with all that can be reached -/
def rtb (σ : Mem) : Prop := ∀ v, 0 ≤ v → v < σ (0, 0) 0 → rcP σ 0 v (σ (3, 6) v)
def inN (n q : Int) : Prop := mk24 q ∧ ∀ v, 0 ≤ v → bt q v = true → v < n
def wrI (σ : Mem) (q w k : Int) : Prop := mk24 w ∧ ∀ u, 0 ≤ u → (bt w u = true ↔ bt q u = true ∨ ∃ v, 0 ≤ v ∧ v < k ∧ bt q v = true ∧ bt (σ (3, 6) v) u = true)
def wrP (σ : Mem) (q z : Int) : Prop := inN (σ (0, 0) 0) z ∧ inS (bt q) (bt z) ∧ clo σ 0 (bt z) ∧ ∀ X, clo σ 0 X → inS (bt q) X → inS (bt z) X
theorem wr_0 {σ : Mem} {q : Int} (h : mk24 q) : wrI σ q q 0 := ⟨h, fun u hu => ⟨Or.inl, fun g => g.elim id (fun ⟨v, a, b, _⟩ => by omega)⟩⟩
theorem wr_y {σ : Mem} {q w k : Int} (hk : 0 ≤ k) (h : wrI σ q w k) (hr : mk24 (σ (3, 6) k)) (hq : bt q k = true) : wrI σ q (oI w (σ (3, 6) k)) (k + 1) := ⟨oI_lt h.1.2 hr.2, fun u hu => by
  rw [bt_o, Bool.or_eq_true, h.2 u hu]
  constructor
  · rintro ((g | ⟨v, a, b, c, d⟩) | g)
    · exact Or.inl g
    · exact Or.inr ⟨v, a, by omega, c, d⟩
    · exact Or.inr ⟨k, hk, by omega, hq, g⟩
  · rintro (g | ⟨v, a, b, c, d⟩)
    · exact Or.inl (Or.inl g)
    · by_cases e : v = k
      · exact Or.inr (e ▸ d)
      · exact Or.inl (Or.inr ⟨v, a, by omega, c, d⟩)⟩
theorem wr_n {σ : Mem} {q w k : Int} (h : wrI σ q w k) (hq : ¬ bt q k = true) : wrI σ q w (k + 1) := ⟨h.1, fun u hu => by
  rw [h.2 u hu]
  refine or_congr Iff.rfl ⟨fun ⟨v, a, b, c, d⟩ => ⟨v, a, by omega, c, d⟩, fun ⟨v, a, b, c, d⟩ => ⟨v, a, ?_, c, d⟩⟩
  by_cases e : v = k
  · rw [e] at c; exact absurd c hq
  · omega⟩
theorem wr_end {σ : Mem} {q w k : Int} (hN : NetOk σ) (hr : rtb σ) (hq : inN (σ (0, 0) 0) q) (h : wrI σ q w k) (hk : k = σ (0, 0) 0) : wrP σ q w := by
  have key : ∀ u, 0 ≤ u → (bt w u = true ↔ ∃ v, 0 ≤ v ∧ v < σ (0, 0) 0 ∧ bt q v = true ∧ bt (σ (3, 6) v) u = true) := fun u hu => by
    rw [h.2 u hu, hk]
    constructor
    · rintro (g | g)
      · exact ⟨u, hu, hq.2 u hu g, g, (hr u hu (hq.2 u hu g)).2.1⟩
      · exact g
    · exact Or.inr
  refine ⟨⟨h.1, fun u hu g => ?_⟩, fun u hu g => (h.2 u hu).mpr (Or.inl g), fun a a0 a1 => ?_, fun X hX i u hu g => ?_⟩
  · obtain ⟨v, a, b, c, d⟩ := (key u hu).mp g
    exact rcP_nodes hN b (hr v a b) hu d
  · have hn := hN.2.2 a a0 a1
    constructor
    · intro g r
      obtain ⟨v, v0, v1, c, d⟩ := (key _ hn.1.1).mp g
      exact (key _ hn.2.1.1).mpr ⟨v, v0, v1, c, ((hr v v0 v1).2.2.1 a a0 a1).1 d r⟩
    · intro g r
      obtain ⟨v, v0, v1, c, d⟩ := (key _ hn.2.1.1).mp g
      exact (key _ hn.1.1).mpr ⟨v, v0, v1, c, ((hr v v0 v1).2.2.1 a a0 a1).2 d r⟩
  · obtain ⟨v, a, b, c, d⟩ := (key u hu).mp g
    exact (hr v a b).2.2.2 X hX (i v a c) u hu d
/-- the set that is tried at a node -/
theorem nx_try {σ : Mem} {q k w m s t : Int} (hN : NetOk σ) (hk : 0 ≤ k ∧ k < σ (0, 0) 0) (hq : inN (σ (0, 0) 0) q) (hs : 0 ≤ s) (ht : 0 ≤ t ∧ t < σ (0, 0) 0) (hm : rcP σ 0 s m) (hsn : s < σ (0, 0) 0) (h : wrP σ (oI (hI q (k + 1)) (pI k)) w) : inN (σ (0, 0) 0) (oI w m) ∧
    (clK σ s t (bt (oI w m)) ↔ ¬ bt (oI w m) t = true) ∧ bt (oI w m) k = true ∧ (∀ u, k < u → bt q u = true → bt (oI w m) u = true) ∧ ∀ X, clK σ s t X → X k = true → (∀ u, k < u → u < σ (0, 0) 0 → bt q u = true → X u = true) → ∀ u, 0 ≤ u → bt (oI w m) u = true → X u = true := by
  obtain ⟨⟨h1, h2⟩, h3, h4, h5⟩ := h
  have hin : ∀ u, 0 ≤ u → (bt (oI (hI q (k + 1)) (pI k)) u = true ↔ (k < u ∧ bt q u = true) ∨ u = k) := fun u hu => by
    rw [bt_o, bt_h (by omega) hu, bt_p hk.1 hu, Bool.or_eq_true, Bool.and_eq_true, decide_eq_true_eq, decide_eq_true_eq]
    constructor
    · rintro (⟨a, b⟩ | a)
      · exact Or.inl ⟨by omega, b⟩
      · exact Or.inr a.symm
    · rintro (⟨a, b⟩ | a)
      · exact Or.inl ⟨by omega, b⟩
      · exact Or.inr a.symm
  have hc : clo σ 0 (bt (oI w m)) := by
    have := clo_or h4 hm.2.2.1
    rw [show bt (oI w m) = fun v => bt w v || bt m v from funext fun v => bt_o]
    exact this
  refine ⟨⟨oI_lt h1.2 hm.1.2, fun u hu g => ?_⟩, ⟨fun g => g.2.2, fun g => ⟨hc, ?_, g⟩⟩, ?_, fun u hu g => ?_, fun X hX x1 x2 u hu g => ?_⟩
  · rw [bt_o, Bool.or_eq_true] at g
    exact g.elim (h2 u hu) (fun g => rcP_nodes hN hsn hm hu g)
  · rw [bt_o]
    exact b_r hm.2.1
  · rw [bt_o]
    exact b_l (h3 k hk.1 ((hin k hk.1).mpr (Or.inr rfl)))
  · rw [bt_o]
    exact b_l (h3 u (by omega) ((hin u (by omega)).mpr (Or.inl ⟨hu, g⟩)))
  · rw [bt_o, Bool.or_eq_true] at g
    refine g.elim (fun g => h5 X hX.1 (fun v hv b => ?_) u hu g) (fun g => hm.2.2.2 X hX.1 hX.2.1 u hu g)
    rcases (hin v hv).mp b with ⟨a, c⟩ | a
    · exact x2 v a (hq.2 v hv c) c
    · exact a ▸ x1
theorem nx_yes {σ : Mem} {q k w m s t : Int} (hN : NetOk σ) (hk : 0 ≤ k ∧ k < σ (0, 0) 0) (hq : inN (σ (0, 0) 0) q) (hs : 0 ≤ s) (ht : 0 ≤ t ∧ t < σ (0, 0) 0) (hm : rcP σ 0 s m) (hsn : s < σ (0, 0) 0) (h : wrP σ (oI (hI q (k + 1)) (pI k)) w) (h0 : ∀ v, 0 ≤ v → v < k → ¬ nxP (clK σ s t) (σ (0, 0) 0) q v) (c1 : ¬ bt q k = true) (c2 : sI (oI w m) (k + 1) = sI q (k + 1)) (c3 : ¬ bt (oI w m) t = true) : nxY (clK σ s t) (σ (0, 0) 0) q (oI w m) := by
  obtain ⟨a1, a2, a3, a4, a5⟩ := nx_try hN hk hq hs ht hm hsn h
  have e := (sI_eq (by omega)).mp c2
  refine ⟨a1.1, k, hk, ⟨c1, _, a2.mpr c3, a3, fun u u1 u2 => by rw [e u (by omega)]⟩, h0, fun u hu => ⟨fun g => ⟨a1.2 u hu g, fun X x1 x2 x3 => a5 X x1 x2 x3 u hu g⟩, fun g => g.2 _ (a2.mpr c3) a3 (fun v v1 v2 b => a4 v v1 b)⟩⟩
theorem nx_no {σ : Mem} {q k w m s t : Int} (hN : NetOk σ) (hk : 0 ≤ k ∧ k < σ (0, 0) 0) (hq : inN (σ (0, 0) 0) q) (hs : 0 ≤ s) (ht : 0 ≤ t ∧ t < σ (0, 0) 0) (hm : rcP σ 0 s m) (hsn : s < σ (0, 0) 0) (h : wrP σ (oI (hI q (k + 1)) (pI k)) w) (h0 : ∀ v, 0 ≤ v → v < k → ¬ nxP (clK σ s t) (σ (0, 0) 0) q v) (c : bt q k = true ∨ ¬ sI (oI w m) (k + 1) = sI q (k + 1) ∨ bt (oI w m) t = true) : ∀ v, 0 ≤ v → v < k + 1 → ¬ nxP (clK σ s t) (σ (0, 0) 0) q v := fun v v0 v1 g => by
  by_cases e : v = k
  · subst e
    obtain ⟨a1, a2, a3, a4, a5⟩ := nx_try hN hk hq hs ht hm hsn h
    obtain ⟨g1, X, x1, x2, x3⟩ := g
    have i := a5 X x1 x2 (fun u u1 u2 b => (x3 u u1 u2).mpr b)
    rcases c with c | c | c
    · exact g1 c
    · refine c ((sI_eq (by omega)).mpr fun u hu => ?_)
      have h1 : bt (oI w m) u = true → bt q u = true := fun b => (x3 u (by omega) (a1.2 u (by omega) b)).mp (i u (by omega) b)
      have h2 : bt q u = true → bt (oI w m) u = true := a4 u (by omega)
      cases p : bt (oI w m) u <;> cases r : bt q u <;> simp_all
    · exact x1.2.2 (i t ht.1 c)
  · exact h0 v v0 (by omega) g

theorem dc_X0_withReachable : dcl yX0_withReachable 2 := ⟨by decide, by decide, by decide +kernel⟩
theorem dc_X0_nextAfter : dcl yX0_nextAfter 3 := ⟨by decide, by decide, by decide +kernel⟩
theorem dc_X0_find : dcl yX0_find 1 := ⟨by decide, by decide, by decide +kernel⟩

set_option maxHeartbeats 4000000 in
set_option maxRecDepth 100000 in
theorem c_X0_withReachable (l : Launch) (D : va_G) (cs : Nat → ClassId) (ad : Ix → Nat) (hap : Apart idsF ad) {σ : Mem} (hN : NetOk σ) (hrt : rtb σ) {q : Int} (hq : inN (σ (0, 0) 0) q) : CI l D cs idsF ad yX0_withReachable cX0_withReachable 5 .int 1 [(.ref (ad (3, 4))), (jI q), (jI (σ (0, 0) 0))] σ (fun z τ => τ = σ ∧ wrP σ q z) := by
  refine CI.of RX0 hap idsF_nd (by decide) rfl (Nat.le_of_ble_eq_true rfl) ?_
  intro pg ev s0 mi av bl mt cd X K hr
  have hn := hN.1
  have hq0 := hq.1.1
  have hq1 := hq.1.2
  refine zr_iloadn X dX0_withReachable_0 rfl ?_
  refine zr_istoren X dX0_withReachable_1 (by decide) rfl ?_
  refine zr_iconst X dX0_withReachable_2 ?_
  refine zr_istore X dX0_withReachable_3 (by decide) rfl ?_
  have loop_5 : ∀ (n_5 : Nat) (w : Int) (k : Int), ((0 ≤ k ∧ k ≤ σ (0, 0) 0) ∧ wrI σ q w k) → (σ (0, 0) 0 - k).toNat < n_5 → Wx pg l ev (rmm 1 0 0) s0 mi av bl mt cd D cs idsF ad (Rg idsF ad) s0.heap 5 (MQ bl (qI D cs idsF ad ((fun z τ => τ = σ ∧ wrP σ q z))) av s0 0 0 (Rg idsF ad)) 0 0 σ 5 [some (.ref (ad (3, 4))), some (jI q), some (jI (σ (0, 0) 0)), some (jI w), some (jI k)] [] := by
    intro n_5
    induction n_5 with
    | zero => exact fun w k hinv hn => absurd hn (Nat.not_lt_zero _)
    | succ n_5 ih_5 =>
      intro w k hI_5 hn_5
      have hk0 := hI_5.1
      refine zr_iload X dX0_withReachable_5 rfl ?_
      refine zr_iloadn X dX0_withReachable_7 rfl ?_
      refine zr_icmp_ge X 36 dX0_withReachable_8 (by decide) ⟨by omega, by omega⟩ ⟨by omega, by omega⟩ (fun t_8 => ?_) (fun f_8 => ?_)
      · refine zr_iloadn X dX0_withReachable_36 rfl ?_
        refine zr_iret X hr dX0_withReachable_37 ?_
        exact ⟨rfl, wr_end hN hrt hq hI_5.2 (by omega)⟩
      · have hrk := hrt k hk0.1 (by omega)
        refine zr_iloadn X dX0_withReachable_11 rfl ?_
        refine zr_iload X dX0_withReachable_12 rfl ?_
        refine zr_callSNI X K (st := []) (c_X6_contains l D cs ad hap (m := q) (v := k) ⟨hq0, by omega⟩ ⟨by omega, by omega⟩) ⟨tn_641, tw_303, tw_1, tw_304⟩ dc_X6_contains rfl rfl (Nat.le_of_ble_eq_true rfl) (by decide) dX0_withReachable_14 ?_
        intro z_ τ_ hp_
        obtain ⟨hτ_, hz_⟩ := hp_
        subst τ_
        subst z_
        refine zr_if_eq X 30 dX0_withReachable_17 (by decide) ite01 (fun t_17 => ?_) (fun f_17 => ?_)
        · refine zr_iinc X dX0_withReachable_30 rfl (by decide) rfl ?_
          refine zr_goto X 5 dX0_withReachable_33 (by decide) ?_
          refine Wx.weak (lo' := [some (.ref (ad (3, 4))), some (jI q), some (jI (σ (0, 0) 0)), some (jI w), some (jI (k + 1))]) ⟨rfl, rfl, rfl, rfl, rfl, trivial⟩ ?_
          exact ih_5 _ _ ⟨⟨by omega, by omega⟩, wr_n hI_5.2 (ite0 t_17)⟩ (by omega)
        · refine zr_iloadn X dX0_withReachable_20 rfl ?_
          refine zr_aloadn X dX0_withReachable_21 rfl ?_
          refine zr_get X K (C := RX0) (T := TX0) (N := 3) (k := 2) mF_3_4 rfl rfl ti_0 (by decide) rfl tw_192 rfl dX0_withReachable_22 ?_
          refine zr_iload X dX0_withReachable_25 rfl ?_
          refine zr_iald X K (n := 24) mF_3_6 rfl (by decide) (by omega) dX0_withReachable_27 ?_
          refine zr_ior X dX0_withReachable_28 (zb_or hI_5.2.1.1 hrk.1.1) ?_
          refine zr_istoren X dX0_withReachable_29 (by decide) rfl ?_
          refine zr_iinc X dX0_withReachable_30 rfl (by decide) rfl ?_
          refine zr_goto X 5 dX0_withReachable_33 (by decide) ?_
          refine Wx.weak (lo' := [some (.ref (ad (3, 4))), some (jI q), some (jI (σ (0, 0) 0)), some (jI (oI w (σ (3, 6) k))), some (jI (k + 1))]) ⟨rfl, rfl, rfl, rfl, rfl, trivial⟩ ?_
          exact ih_5 _ _ ⟨⟨by omega, by omega⟩, wr_y hk0.1 hI_5.2 hrk.1 (ite1 f_17)⟩ (by omega)
  refine Wx.weak (lo' := [some (.ref (ad (3, 4))), some (jI q), some (jI (σ (0, 0) 0)), some (jI q), some (jI 0)]) ⟨rfl, rfl, rfl, rfl, rfl, trivial⟩ ?_
  exact loop_5 _ _ _ ⟨⟨by omega, by omega⟩, wr_0 hq.1⟩ (Nat.lt_succ_self _)

set_option maxHeartbeats 4000000 in
set_option maxRecDepth 100000 in
theorem c_X0_nextAfter (l : Launch) (D : va_G) (cs : Nat → ClassId) (ad : Ix → Nat) (hap : Apart idsF ad) {σ : Mem} (hN : NetOk σ) (hrt : rtb σ) {q s t : Int} (hq : inN (σ (0, 0) 0) q) (hs : 0 ≤ s ∧ s < σ (0, 0) 0) (ht : 0 ≤ t ∧ t < σ (0, 0) 0) (hm : rcP σ 0 s (σ (3, 5) 0)) : CI l D cs idsF ad yX0_nextAfter cX0_nextAfter 9 .int 2 [(.ref (ad (3, 4))), (jI q), (jI (σ (0, 0) 0)), (jI t)] σ (fun z τ => τ = σ ∧ ((z = 0 ∧ nxN (clK σ s t) (σ (0, 0) 0) q) ∨ nxY (clK σ s t) (σ (0, 0) 0) q z)) := by
  refine CI.of RX0 hap idsF_nd (by decide) rfl (Nat.le_of_ble_eq_true rfl) ?_
  intro pg ev s0 mi av bl mt cd X K hr
  have hn := hN.1
  have hq0 := hq.1.1
  have hq1 := hq.1.2
  have hm0 := hm.1.1
  have hm1 := hm.1.2
  refine zr_iconst X dX0_nextAfter_0 ?_
  refine zr_istore X dX0_nextAfter_1 (by decide) rfl ?_
  have loop_3 : ∀ (n_3 : Nat) (k : Int), ((0 ≤ k ∧ k ≤ σ (0, 0) 0) ∧ ∀ v, 0 ≤ v → v < k → ¬ nxP (clK σ s t) (σ (0, 0) 0) q v) → (σ (0, 0) 0 - k).toNat < n_3 → Wx pg l ev (rmm 2 0 0) s0 mi av bl mt cd D cs idsF ad (Rg idsF ad) s0.heap 9 (MQ bl (qI D cs idsF ad ((fun z τ => τ = σ ∧ ((z = 0 ∧ nxN (clK σ s t) (σ (0, 0) 0) q) ∨ nxY (clK σ s t) (σ (0, 0) 0) q z)))) av s0 0 0 (Rg idsF ad)) 0 0 σ 3 [some (.ref (ad (3, 4))), some (jI q), some (jI (σ (0, 0) 0)), some (jI t), some (jI k), none, none, none, none] [] := by
    intro n_3
    induction n_3 with
    | zero => exact fun k hinv hn => absurd hn (Nat.not_lt_zero _)
    | succ n_3 ih_3 =>
      intro k hI_3 hn_3
      have hk0 := hI_3.1
      refine zr_iload X dX0_nextAfter_3 rfl ?_
      refine zr_iloadn X dX0_nextAfter_5 rfl ?_
      refine zr_icmp_ge X 96 dX0_nextAfter_6 (by decide) ⟨by omega, by omega⟩ ⟨by omega, by omega⟩ (fun t_6 => ?_) (fun f_6 => ?_)
      · refine zr_iconst X dX0_nextAfter_96 ?_
        refine zr_iret X hr dX0_nextAfter_97 ?_
        exact ⟨rfl, Or.inl ⟨rfl, fun v v0 v1 => hI_3.2 v v0 (by omega)⟩⟩
      · refine zr_iload X dX0_nextAfter_9 rfl ?_
        refine zr_iconst X dX0_nextAfter_11 ?_
        refine zr_iadd X dX0_nextAfter_12 ?_
        refine zr_istore X dX0_nextAfter_13 (by decide) rfl ?_
        refine zr_iloadn X dX0_nextAfter_15 rfl ?_
        refine zr_iload X dX0_nextAfter_16 rfl ?_
        refine zr_ishr X dX0_nextAfter_18 (zb_shr hq0 (by omega) (by omega) (by omega)) ?_
        refine zr_iload X dX0_nextAfter_19 rfl ?_
        refine zr_ishl X dX0_nextAfter_21 (zb_hi hq.1 (by omega) (by omega)) ?_
        refine zr_istore X dX0_nextAfter_22 (by decide) rfl ?_
        refine zr_aloadn X dX0_nextAfter_24 rfl ?_
        refine zr_iload X dX0_nextAfter_25 rfl ?_
        refine zr_iconst X dX0_nextAfter_27 ?_
        refine zr_iload X dX0_nextAfter_28 rfl ?_
        refine zr_ishl X dX0_nextAfter_30 (zb_shl (by omega) (by omega)) ?_
        refine zr_ior X dX0_nextAfter_31 (zb_or (hI_le hq.1).1 (pI_rg (by omega)).1) ?_
        refine zr_iloadn X dX0_nextAfter_32 rfl ?_
        refine zr_callVI X K (q := (RX0, TX0, 3)) (st := []) (c_X0_withReachable l D cs ad hap (σ := σ) hN hrt (q := oI (hI q (k + 1)) (pI k)) ⟨oI_lt (hI_le hq.1).2 (pI_rg (by omega)).2, fun v v0 b => by
              rw [bt_o, Bool.or_eq_true, bt_h (by omega) v0, bt_p hk0.1 v0, Bool.and_eq_true] at b
              simp only [decide_eq_true_eq] at b
              exact b.elim (fun b => hq.2 v v0 b.2) (fun b => by omega)⟩) ⟨tw_637, tw_639, tp_36, tw_7, tw_640⟩ dc_X0_withReachable mF_3_4 rfl rfl rfl rfl rfl (Nat.le_of_ble_eq_true rfl) (by decide) dX0_nextAfter_33 ?_
        intro w τ_ hp_
        obtain ⟨hτ_, hw⟩ := hp_
        subst τ_
        have hx : mk24 (oI w (σ (3, 5) 0)) := oI_lt hw.1.1.2 hm1
        have hx0 := hx.1
        have hx1 := hx.2
        refine zr_aloadn X dX0_nextAfter_36 rfl ?_
        refine zr_get X K (C := RX0) (T := TX0) (N := 3) (k := 1) mF_3_4 rfl rfl ti_0 (by decide) rfl tw_190 rfl dX0_nextAfter_37 ?_
        refine zr_iconst X dX0_nextAfter_40 ?_
        refine zr_iald X K (n := 300) mF_3_5 rfl (by decide) (by omega) dX0_nextAfter_41 ?_
        refine zr_ior X dX0_nextAfter_42 (zb_or hw.1.1.1 hm0) ?_
        refine zr_istore X dX0_nextAfter_43 (by decide) rfl ?_
        refine zr_iload X dX0_nextAfter_45 rfl ?_
        refine zr_iload X dX0_nextAfter_47 rfl ?_
        refine zr_ishr X dX0_nextAfter_49 (zb_shr hx.1 (by omega) (by omega) (by omega)) ?_
        refine zr_iloadn X dX0_nextAfter_50 rfl ?_
        refine zr_iload X dX0_nextAfter_51 rfl ?_
        refine zr_ishr X dX0_nextAfter_53 (zb_shr hq0 (by omega) (by omega) (by omega)) ?_
        refine zr_icmp_ne X 61 dX0_nextAfter_54 (by decide) (sr_rg (by omega)) (sr_rg (by omega)) (fun t_54 => ?_) (fun f_54 => ?_)
        · refine zr_iconst X dX0_nextAfter_61 ?_
          refine zr_istore X dX0_nextAfter_62 (by decide) rfl ?_
          refine zr_iloadn X dX0_nextAfter_64 rfl ?_
          refine zr_iload X dX0_nextAfter_65 rfl ?_
          refine zr_callSNI X K (st := []) (c_X6_contains l D cs ad hap (m := q) (v := k) ⟨hq0, by omega⟩ ⟨by omega, by omega⟩) ⟨tn_641, tw_303, tw_1, tw_304⟩ dc_X6_contains rfl rfl (Nat.le_of_ble_eq_true rfl) (by decide) dX0_nextAfter_67 ?_
          intro z_ τ_ hp_
          obtain ⟨hτ_, hz_⟩ := hp_
          subst τ_
          subst z_
          refine zr_if_ne X 90 dX0_nextAfter_70 (by decide) ite01 (fun t_70 => ?_) (fun f_70 => ?_)
          · have hno : bt q k = true ∨ ¬ sI (oI w (σ (3, 5) 0)) (k + 1) = sI q (k + 1) ∨ bt (oI w (σ (3, 5) 0)) t = true := Or.inl (ite1 t_70)
            refine zr_iinc X dX0_nextAfter_90 rfl (by decide) rfl ?_
            refine zr_goto X 3 dX0_nextAfter_93 (by decide) ?_
            refine Wx.weak (lo' := [some (.ref (ad (3, 4))), some (jI q), some (jI (σ (0, 0) 0)), some (jI t), some (jI (k + 1)), none, none, none, none]) ⟨rfl, rfl, rfl, rfl, rfl, trivial⟩ ?_
            exact ih_3 _ ⟨⟨by omega, by omega⟩, nx_no hN ⟨hk0.1, by omega⟩ hq hs.1 ht hm hs.2 hw hI_3.2 hno⟩ (by omega)
          · refine zr_iload X dX0_nextAfter_73 rfl ?_
            refine zr_if_eq X 90 dX0_nextAfter_75 (by decide) ⟨by omega, by omega⟩ (fun t_75 => ?_) (fun f_75 => ?_)
            · have hno : bt q k = true ∨ ¬ sI (oI w (σ (3, 5) 0)) (k + 1) = sI q (k + 1) ∨ bt (oI w (σ (3, 5) 0)) t = true := Or.inr (Or.inl (by assumption))
              refine zr_iinc X dX0_nextAfter_90 rfl (by decide) rfl ?_
              refine zr_goto X 3 dX0_nextAfter_93 (by decide) ?_
              refine Wx.weak (lo' := [some (.ref (ad (3, 4))), some (jI q), some (jI (σ (0, 0) 0)), some (jI t), some (jI (k + 1)), none, none, none, none]) ⟨rfl, rfl, rfl, rfl, rfl, trivial⟩ ?_
              exact ih_3 _ ⟨⟨by omega, by omega⟩, nx_no hN ⟨hk0.1, by omega⟩ hq hs.1 ht hm hs.2 hw hI_3.2 hno⟩ (by omega)
            · exact absurd f_75 (by decide)
        · refine zr_iconst X dX0_nextAfter_57 ?_
          refine zr_goto X 62 dX0_nextAfter_58 (by decide) ?_
          refine zr_istore X dX0_nextAfter_62 (by decide) rfl ?_
          refine zr_iloadn X dX0_nextAfter_64 rfl ?_
          refine zr_iload X dX0_nextAfter_65 rfl ?_
          refine zr_callSNI X K (st := []) (c_X6_contains l D cs ad hap (m := q) (v := k) ⟨hq0, by omega⟩ ⟨by omega, by omega⟩) ⟨tn_641, tw_303, tw_1, tw_304⟩ dc_X6_contains rfl rfl (Nat.le_of_ble_eq_true rfl) (by decide) dX0_nextAfter_67 ?_
          intro z_ τ_ hp_
          obtain ⟨hτ_, hz_⟩ := hp_
          subst τ_
          subst z_
          refine zr_if_ne X 90 dX0_nextAfter_70 (by decide) ite01 (fun t_70 => ?_) (fun f_70 => ?_)
          · have hno : bt q k = true ∨ ¬ sI (oI w (σ (3, 5) 0)) (k + 1) = sI q (k + 1) ∨ bt (oI w (σ (3, 5) 0)) t = true := Or.inl (ite1 t_70)
            refine zr_iinc X dX0_nextAfter_90 rfl (by decide) rfl ?_
            refine zr_goto X 3 dX0_nextAfter_93 (by decide) ?_
            refine Wx.weak (lo' := [some (.ref (ad (3, 4))), some (jI q), some (jI (σ (0, 0) 0)), some (jI t), some (jI (k + 1)), none, none, none, none]) ⟨rfl, rfl, rfl, rfl, rfl, trivial⟩ ?_
            exact ih_3 _ ⟨⟨by omega, by omega⟩, nx_no hN ⟨hk0.1, by omega⟩ hq hs.1 ht hm hs.2 hw hI_3.2 hno⟩ (by omega)
          · refine zr_iload X dX0_nextAfter_73 rfl ?_
            refine zr_if_eq X 90 dX0_nextAfter_75 (by decide) ⟨by omega, by omega⟩ (fun t_75 => ?_) (fun f_75 => ?_)
            · exact absurd t_75 (by decide)
            · refine zr_iload X dX0_nextAfter_78 rfl ?_
              refine zr_iloadn X dX0_nextAfter_80 rfl ?_
              refine zr_callSNI X K (st := []) (c_X6_contains l D cs ad hap (m := oI w (σ (3, 5) 0)) (v := t) ⟨hx0, by omega⟩ ⟨by omega, by omega⟩) ⟨tn_641, tw_303, tw_1, tw_304⟩ dc_X6_contains rfl rfl (Nat.le_of_ble_eq_true rfl) (by decide) dX0_nextAfter_81 ?_
              intro z_ τ_ hp_
              obtain ⟨hτ_, hz_⟩ := hp_
              subst τ_
              subst z_
              refine zr_if_ne X 90 dX0_nextAfter_84 (by decide) ite01 (fun t_84 => ?_) (fun f_84 => ?_)
              · have hno : bt q k = true ∨ ¬ sI (oI w (σ (3, 5) 0)) (k + 1) = sI q (k + 1) ∨ bt (oI w (σ (3, 5) 0)) t = true := Or.inr (Or.inr (ite1 t_84))
                refine zr_iinc X dX0_nextAfter_90 rfl (by decide) rfl ?_
                refine zr_goto X 3 dX0_nextAfter_93 (by decide) ?_
                refine Wx.weak (lo' := [some (.ref (ad (3, 4))), some (jI q), some (jI (σ (0, 0) 0)), some (jI t), some (jI (k + 1)), none, none, none, none]) ⟨rfl, rfl, rfl, rfl, rfl, trivial⟩ ?_
                exact ih_3 _ ⟨⟨by omega, by omega⟩, nx_no hN ⟨hk0.1, by omega⟩ hq hs.1 ht hm hs.2 hw hI_3.2 hno⟩ (by omega)
              · refine zr_iload X dX0_nextAfter_87 rfl ?_
                refine zr_iret X hr dX0_nextAfter_89 ?_
                exact ⟨rfl, Or.inr (nx_yes hN ⟨hk0.1, by omega⟩ hq hs.1 ht hm hs.2 hw hI_3.2 (ite0 f_70) (by omega) (ite0 f_84))⟩
  refine Wx.weak (lo' := [some (.ref (ad (3, 4))), some (jI q), some (jI (σ (0, 0) 0)), some (jI t), some (jI 0), none, none, none, none]) ⟨rfl, rfl, rfl, rfl, rfl, trivial⟩ ?_
  exact loop_3 _ _ ⟨⟨by omega, by omega⟩, fun v a b => by omega⟩ (Nat.lt_succ_self _)
