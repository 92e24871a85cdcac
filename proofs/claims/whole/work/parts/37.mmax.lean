/-! THE REFERENCE: maximum flows -/
theorem g_clo {m : Nat} {tl hd c f b : Int → Int} {X : Int → Bool} (h : ∀ a : Int, 0 ≤ a → a < m → 0 ≤ f a ∧ 0 ≤ b a ∧ f a + b a = c a) (k : gcl m tl hd f b X) : gnet m tl hd b X = gcp m tl hd c X := sm_cong fun a a0 a1 => by
  have h1 := h a a0 a1
  have k1 := k a a0 a1
  show ind X (tl a) (b a) - ind X (hd a) (b a) = if X (tl a) = true ∧ ¬ X (hd a) = true then c a else 0
  by_cases q1 : X (tl a) = true <;> by_cases q2 : X (hd a) = true
  · rw [ind_t q1, ind_t q2, if_neg (fun g => g.2 q2)]; omega
  · rw [ind_t q1, ind_f q2, if_pos ⟨q1, q2⟩]
    have : ¬ 0 < f a := fun g => q2 (k1.1 q1 g)
    omega
  · rw [ind_f q1, ind_t q2, if_neg (fun g => q1 g.1)]
    have : ¬ 0 < b a := fun g => q1 (k1.2 q2 g)
    omega
  · rw [ind_f q1, ind_f q2, if_neg (fun g => q1 g.1)]; omega
theorem g_oth {m : Nat} {tl hd c f b : Int → Int} {X : Int → Bool} (h : ∀ a : Int, 0 ≤ a → a < m → 0 ≤ f a ∧ 0 ≤ b a ∧ f a + b a = c a) (k : gnet m tl hd b X = gcp m tl hd c X) : gcl m tl hd f b X := fun a a0 a1 => by
  have key := sm_eq_le (f := fun a => ind X (tl a) (b a) - ind X (hd a) (b a)) (g := fun a => if X (tl a) = true ∧ ¬ X (hd a) = true then c a else 0) (n := m) (fun j j0 j1 => by
    have h1 := h j j0 j1
    show ind X (tl j) (b j) - ind X (hd j) (b j) ≤ if X (tl j) = true ∧ ¬ X (hd j) = true then c j else 0
    by_cases q1 : X (tl j) = true <;> by_cases q2 : X (hd j) = true
    · rw [ind_t q1, ind_t q2, if_neg (fun g => g.2 q2)]; omega
    · rw [ind_t q1, ind_f q2, if_pos ⟨q1, q2⟩]; omega
    · rw [ind_f q1, ind_t q2, if_neg (fun g => q1 g.1)]; omega
    · rw [ind_f q1, ind_f q2, if_neg (fun g => q1 g.1)]; omega) k a a0 a1
  have h1 := h a a0 a1
  have key : ind X (tl a) (b a) - ind X (hd a) (b a) = if X (tl a) = true ∧ ¬ X (hd a) = true then c a else 0 := key
  refine ⟨fun q1 g => ?_, fun q2 g => ?_⟩
  · by_cases q2 : X (hd a) = true
    · exact q2
    · rw [ind_t q1, ind_f q2, if_pos ⟨q1, q2⟩] at key; omega
  · by_cases q1 : X (tl a) = true
    · exact q1
    · rw [ind_f q1, ind_t q2, if_neg (fun g => q1 g.1)] at key; omega
def mEn (σ : Mem) : Prop := σ (4, 7) 0 = -1 ∧ σ (4, 8) 0 = -1
def mEy (σ : Mem) : Prop := (0 ≤ σ (4, 7) 0 ∧ σ (4, 7) 0 < σ (4, 2) 0) ∧ (0 ≤ σ (4, 8) 0 ∧ σ (4, 8) 0 < σ (4, 2) 0) ∧ σ (4, 7) 0 ≠ σ (4, 8) 0
def mOk (σ : Mem) : Prop := mNet σ ∧ (∀ a, 0 ≤ a → a < σ (4, 3) 0 → 0 ≤ σ (4, 6) a ∧ σ (4, 6) a ≤ 1000000) ∧ (mEn σ ∨ mEy σ) ∧ (0 ≤ σ (4, 9) 0 ∧ σ (4, 9) 0 ≤ 8) ∧ (0 ≤ σ (4, 15) 0 ∧ σ (4, 15) 0 ≤ 300) ∧
  (∀ i, 0 ≤ i → i < σ (4, 9) 0 → (0 ≤ σ (4, 10) i ∧ σ (4, 10) i ≤ σ (4, 3) 0) ∧ (-1 ≤ σ (4, 12) i ∧ σ (4, 12) i < 24) ∧ (-1 ≤ σ (4, 13) i ∧ σ (4, 13) i < 24) ∧ ∀ a, 0 ≤ a → a < σ (4, 10) i → 0 ≤ σ (4, 11) (80 * i + a) ∧ σ (4, 11) (80 * i + a) ≤ 1000000)
abbrev mnM (σ : Mem) (c : Int → Int) (s t v : Int) : Prop := isMn (σ (4, 3) 0).toNat (σ (4, 4)) (σ (4, 5)) c s t v
/-- after a maximum flow has been found -/
def mstP (σ τ : Mem) (c : Int → Int) (s t z : Int) : Prop := frX σ τ ∧ (∀ a, 0 ≤ a → a < σ (4, 3) 0 → 0 ≤ τ (4, 16) a ∧ 0 ≤ τ (4, 17) a ∧ τ (4, 16) a + τ (4, 17) a = c a) ∧ (∀ X, gnM τ X = ind X s z - ind X t z) ∧ 0 ≤ z ∧ ∃ X : Int → Bool, X s = true ∧ ¬ X t = true ∧ rcl τ X
def cut2 (σ : Mem) (c : Int → Int) (s t : Int) : Prop := ∃ X : Int → Bool, X s = true ∧ ¬ X t = true ∧ gcp (σ (4, 3) 0).toNat (σ (4, 4)) (σ (4, 5)) c X < 200000000
theorem mst_le {σ τ : Mem} {c : Int → Int} {s t z : Int} (f : frX σ τ) (h : ∀ a, 0 ≤ a → a < σ (4, 3) 0 → 0 ≤ τ (4, 16) a ∧ 0 ≤ τ (4, 17) a ∧ τ (4, 16) a + τ (4, 17) a = c a) (hm : 0 ≤ σ (4, 3) 0) (g : ∀ X, gnM τ X = ind X s z - ind X t z) (X : Int → Bool) : ind X s z - ind X t z ≤ gcp (σ (4, 3) 0).toNat (σ (4, 4)) (σ (4, 5)) c X := by
  rw [← g X]
  unfold gnM
  rw [f (4, 3) (by decide), f (4, 4) (by decide), f (4, 5) (by decide)]
  exact g_le (fun a a0 a1 => by have := h a a0 (by omega); omega) X
theorem mst_mn {σ τ : Mem} {c : Int → Int} {s t z : Int} (hm : 0 ≤ σ (4, 3) 0) (h : mstP σ τ c s t z) : mnM σ c s t z := by
  obtain ⟨f, r, g, z0, X, x1, x2, x3⟩ := h
  refine ⟨⟨X, x1, x2, ?_⟩, fun Y y1 y2 => ?_⟩
  · have e := g_clo (c := c) (fun a a0 a1 => r a a0 (by rw [f (4, 3) (by decide)] at a1; omega)) x3
    have g' := g X
    unfold gnM at g'
    rw [e, f (4, 3) (by decide), f (4, 4) (by decide), f (4, 5) (by decide), ind_t x1, ind_f x2] at g'
    omega
  · have := mst_le f r hm g Y
    rw [ind_t y1, ind_f y2] at this
    omega
theorem mst_cl {σ τ : Mem} {c : Int → Int} {s t z : Int} (hm : 0 ≤ σ (4, 3) 0) (h : mstP σ τ c s t z) {X : Int → Bool} (x1 : X s = true) (x2 : ¬ X t = true) : rcl τ X ↔ mcut (σ (4, 3) 0).toNat (σ (4, 4)) (σ (4, 5)) c s t X := by
  have hM := mst_mn hm h
  obtain ⟨f, r, g, z0, -⟩ := h
  have g' := g X
  unfold gnM at g'
  rw [f (4, 3) (by decide), f (4, 4) (by decide), f (4, 5) (by decide), ind_t x1, ind_f x2] at g'
  have rr : ∀ a : Int, 0 ≤ a → a < ((σ (4, 3) 0).toNat : Int) → 0 ≤ τ (4, 16) a ∧ 0 ≤ τ (4, 17) a ∧ τ (4, 16) a + τ (4, 17) a = c a := fun a a0 a1 => r a a0 (by omega)
  unfold rcl
  rw [f (4, 3) (by decide), f (4, 4) (by decide), f (4, 5) (by decide)]
  constructor
  · intro k
    have e := g_clo rr k
    refine ⟨x1, x2, fun Y y1 y2 => ?_⟩
    have := hM.2 Y y1 y2
    omega
  · intro k
    refine g_oth rr ?_
    have := mcut_val hM k
    omega
theorem mst_of {σ υ τ : Mem} {c : Int → Int} {s t z : Int} (hm : 0 ≤ σ (4, 3) 0) (f0 : frX σ υ) (e : ∀ a, 0 ≤ a → a < σ (4, 3) 0 → υ (4, 16) a = c a ∧ υ (4, 17) a = 0) (hb : cut2 σ c s t) (k : fiP υ τ s t 200000000 z) : mstP σ τ c s t z := by
  obtain ⟨⟨k1, k2, k3, k4⟩, k5⟩ := k
  have e3 : υ (4, 3) = σ (4, 3) := f0 _ (by decide)
  have f : frX σ τ := fun p hp => (k1 p hp).trans (f0 p hp)
  have r : ∀ a, 0 ≤ a → a < σ (4, 3) 0 → 0 ≤ τ (4, 16) a ∧ 0 ≤ τ (4, 17) a ∧ τ (4, 16) a + τ (4, 17) a = c a := fun a a0 a1 => by
    have := k2 a a0 (by rw [e3]; exact a1)
    have := e a a0 a1
    omega
  have g : ∀ X, gnM τ X = ind X s z - ind X t z := fun X => by
    have h0 : gnM υ X = 0 := by
      unfold gnM gnet
      rw [e3]
      refine (sm_cong (g := fun _ => 0) fun a a0 a1 => ?_).trans (sm_zero _)
      show ind X (υ (4, 4) a) (υ (4, 17) a) - ind X (υ (4, 5) a) (υ (4, 17) a) = 0
      rw [(e a a0 (by omega)).2, ind_0, ind_0]
      rfl
    rw [k4 X, h0]
    omega
  refine ⟨f, r, g, k3.1, ?_⟩
  rcases k5 with q | q
  · obtain ⟨X, x1, x2, x3⟩ := hb
    have := mst_le f r hm g X
    rw [ind_t x1, ind_f x2] at this
    omega
  · exact q
theorem cut2_s {σ : Mem} {c : Int → Int} {s t : Int} (hm : 0 ≤ σ (4, 3) 0 ∧ σ (4, 3) 0 ≤ 80) (hst : s ≠ t) (h : ∀ a, 0 ≤ a → a < σ (4, 3) 0 → c a ≤ 1000001) : cut2 σ c s t := by
  refine ⟨fun v => decide (v = s), decide_eq_true rfl, fun q => hst (of_decide_eq_true q).symm, ?_⟩
  have : gcp (σ (4, 3) 0).toNat (σ (4, 4)) (σ (4, 5)) c (fun v => decide (v = s)) ≤ sm (fun _ => 1000001) (σ (4, 3) 0).toNat := sm_le fun a a0 a1 => by
    have := h a a0 (by omega)
    show (if decide (σ (4, 4) a = s) = true ∧ ¬ decide (σ (4, 5) a = s) = true then c a else 0) ≤ 1000001
    split <;> omega
  rw [sm_const] at this
  omega
theorem mres_of {σ υ : Mem} {c : Int → Int} (f0 : frX σ υ) (hc : ∀ a, 0 ≤ a → a < σ (4, 3) 0 → 0 ≤ c a ∧ c a ≤ 200000000) (e : ∀ a, 0 ≤ a → a < σ (4, 3) 0 → υ (4, 16) a = c a ∧ υ (4, 17) a = 0) : mRes υ := fun a a0 a1 => by
  rw [f0 (4, 3) (by decide)] at a1
  have := hc a a0 a1
  have := e a a0 a1
  omega
def emI (σ υ : Mem) (i : Int) : Prop := frX σ υ ∧ ∀ a, 0 ≤ a → a < i → υ (4, 16) a = σ (4, 6) a ∧ υ (4, 17) a = 0
theorem em_s {σ υ σ1 τ : Mem} {i : Int} (h : emI σ υ i) (e1 : mset υ (4, 16) i (υ (4, 6) i) = σ1) (e2 : mset σ1 (4, 17) i 0 = τ) : emI σ τ (i + 1) := by
  refine ⟨fun p hp => ?_, fun a a0 a1 => ?_⟩
  · have h1 := h.1 p hp
    simp only [List.mem_cons, List.not_mem_nil, or_false, not_or] at hp
    rw [← e2, mset_id hp.2.1, ← e1, mset_id hp.1, h1]
  · rw [← e2, mset_id (by decide), mset_at, ← e1, mset_at, mset_id (by decide), h.1 (4, 6) (by decide)]
    by_cases q : a = i
    · rw [if_pos q, if_pos q, q]; exact ⟨rfl, rfl⟩
    · rw [if_neg q, if_neg q]; exact h.2 a a0 (by omega)

set_option maxHeartbeats 4000000 in
set_option maxRecDepth 100000 in
theorem c_X7_fail (l : Launch) (D : va_G) (cs : Nat → ClassId) (ad : Ix → Nat) (hap : Apart idsM ad) {σ : Mem} {k : Int} : CI l D cs idsM ad yX7_fail cX7_fail 2 .int 0 [(.ref (ad (4, 0))), (jI k)] σ (fun z τ => τ = mset σ (4, 1) 0 k ∧ z = 0) := by
  refine CI.of RX7 hap idsM_nd (by decide) rfl (Nat.le_of_ble_eq_true rfl) ?_
  intro pg ev s0 mi av bl mt cd X K hr
  refine zr_aloadn X dX7_fail_0 rfl ?_
  refine zr_iloadn X dX7_fail_1 rfl ?_
  refine zr_put X K (q := (4, 1)) (C := RX7) (T := TX7) (ty0 := tyX7) (N := 20) (k := 0) mM_0 (fun _ => rfl) (by simp [mset]) rfl rfl ti_7 tyX7_ok nmX7 (by decide) rfl tw_700 rfl rfl rfl (Nat.le_of_ble_eq_true rfl) dX7_fail_2 ?_
  refine zr_iconst X dX7_fail_5 ?_
  refine zr_iret X hr dX7_fail_6 ?_
  exact ⟨rfl, rfl⟩

set_option maxHeartbeats 4000000 in
set_option maxRecDepth 100000 in
theorem c_X7_isNode (l : Launch) (D : va_G) (cs : Nat → ClassId) (ad : Ix → Nat) (hap : Apart idsM ad) {σ : Mem} (hN : mNet σ) {v : Int} (hv : rg v) : CI l D cs idsM ad yX7_isNode cX7_isNode 2 .boolean 0 [(.ref (ad (4, 0))), (jI v)] σ (fun z τ => τ = σ ∧ (z = 0 ∨ z = 1) ∧ (z = 1 ↔ 0 ≤ v ∧ v < σ (4, 2) 0)) := by
  refine CI.of RX7 hap idsM_nd (by decide) rfl (Nat.le_of_ble_eq_true rfl) ?_
  intro pg ev s0 mi av bl mt cd X K hr
  have hn := hN.1
  have hm := hN.2.1
  have hv1 := hv.1
  have hv2 := hv.2
  refine zr_iloadn X dX7_isNode_0 rfl ?_
  refine zr_if_lt X 16 dX7_isNode_1 (by decide) ⟨by omega, by omega⟩ (fun t_1 => ?_) (fun f_1 => ?_)
  · refine zr_iconst X dX7_isNode_16 ?_
    refine zr_zret X hr dX7_isNode_17 (by omega) ?_
    exact ⟨rfl, Or.inl rfl, fun q => absurd q (by decide), fun q => absurd q (by omega)⟩
  · refine zr_iloadn X dX7_isNode_4 rfl ?_
    refine zr_aloadn X dX7_isNode_5 rfl ?_
    refine zr_get X K (C := RX7) (T := TX7) (N := 20) (k := 1) mM_0 rfl rfl ti_7 (by decide) rfl tw_701 rfl dX7_isNode_6 ?_
    refine zr_icmp_ge X 16 dX7_isNode_9 (by decide) ⟨by omega, by omega⟩ ⟨by omega, by omega⟩ (fun t_9 => ?_) (fun f_9 => ?_)
    · refine zr_iconst X dX7_isNode_16 ?_
      refine zr_zret X hr dX7_isNode_17 (by omega) ?_
      exact ⟨rfl, Or.inl rfl, fun q => absurd q (by decide), fun q => absurd q (by omega)⟩
    · refine zr_iconst X dX7_isNode_12 ?_
      refine zr_goto X 17 dX7_isNode_13 (by decide) ?_
      refine zr_zret X hr dX7_isNode_17 (by omega) ?_
      exact ⟨rfl, Or.inr rfl, fun _ => by omega, fun _ => rfl⟩

set_option maxHeartbeats 4000000 in
set_option maxRecDepth 100000 in
theorem c_X7_isArc (l : Launch) (D : va_G) (cs : Nat → ClassId) (ad : Ix → Nat) (hap : Apart idsM ad) {σ : Mem} (hN : mNet σ) {v : Int} (hv : rg v) : CI l D cs idsM ad yX7_isArc cX7_isArc 2 .boolean 0 [(.ref (ad (4, 0))), (jI v)] σ (fun z τ => τ = σ ∧ (z = 0 ∨ z = 1) ∧ (z = 1 ↔ 0 ≤ v ∧ v < σ (4, 3) 0)) := by
  refine CI.of RX7 hap idsM_nd (by decide) rfl (Nat.le_of_ble_eq_true rfl) ?_
  intro pg ev s0 mi av bl mt cd X K hr
  have hn := hN.1
  have hm := hN.2.1
  have hv1 := hv.1
  have hv2 := hv.2
  refine zr_iloadn X dX7_isArc_0 rfl ?_
  refine zr_if_lt X 16 dX7_isArc_1 (by decide) ⟨by omega, by omega⟩ (fun t_1 => ?_) (fun f_1 => ?_)
  · refine zr_iconst X dX7_isArc_16 ?_
    refine zr_zret X hr dX7_isArc_17 (by omega) ?_
    exact ⟨rfl, Or.inl rfl, fun q => absurd q (by decide), fun q => absurd q (by omega)⟩
  · refine zr_iloadn X dX7_isArc_4 rfl ?_
    refine zr_aloadn X dX7_isArc_5 rfl ?_
    refine zr_get X K (C := RX7) (T := TX7) (N := 20) (k := 2) mM_0 rfl rfl ti_7 (by decide) rfl tw_702 rfl dX7_isArc_6 ?_
    refine zr_icmp_ge X 16 dX7_isArc_9 (by decide) ⟨by omega, by omega⟩ ⟨by omega, by omega⟩ (fun t_9 => ?_) (fun f_9 => ?_)
    · refine zr_iconst X dX7_isArc_16 ?_
      refine zr_zret X hr dX7_isArc_17 (by omega) ?_
      exact ⟨rfl, Or.inl rfl, fun q => absurd q (by decide), fun q => absurd q (by omega)⟩
    · refine zr_iconst X dX7_isArc_12 ?_
      refine zr_goto X 17 dX7_isArc_13 (by decide) ?_
      refine zr_zret X hr dX7_isArc_17 (by omega) ?_
      exact ⟨rfl, Or.inr rfl, fun _ => by omega, fun _ => rfl⟩

set_option maxHeartbeats 4000000 in
set_option maxRecDepth 100000 in
theorem c_X7_isCapacity (l : Launch) (D : va_G) (cs : Nat → ClassId) (ad : Ix → Nat) (hap : Apart idsM ad) {σ : Mem} {v : Int} (hv : rg v) : CI l D cs idsM ad yX7_isCapacity cX7_isCapacity 1 .boolean 0 [(jI v)] σ (fun z τ => τ = σ ∧ (z = 0 ∨ z = 1) ∧ (z = 1 ↔ 0 ≤ v ∧ v ≤ 1000000)) := by
  refine CI.of RX7 hap idsM_nd (by decide) rfl (Nat.le_of_ble_eq_true rfl) ?_
  intro pg ev s0 mi av bl mt cd X K hr
  have hv1 := hv.1
  have hv2 := hv.2
  refine zr_iloadn X dX7_isCapacity_0 rfl ?_
  refine zr_if_lt X 14 dX7_isCapacity_1 (by decide) ⟨by omega, by omega⟩ (fun t_1 => ?_) (fun f_1 => ?_)
  · refine zr_iconst X dX7_isCapacity_14 ?_
    refine zr_zret X hr dX7_isCapacity_15 (by omega) ?_
    exact ⟨rfl, Or.inl rfl, fun q => absurd q (by decide), fun q => absurd q (by omega)⟩
  · refine zr_iloadn X dX7_isCapacity_4 rfl ?_
    refine zr_ldc (n := 1000000) X dX7_isCapacity_5 tw_784 rfl ?_
    refine zr_icmp_gt X 14 dX7_isCapacity_7 (by decide) ⟨by omega, by omega⟩ ⟨by omega, by omega⟩ (fun t_7 => ?_) (fun f_7 => ?_)
    · refine zr_iconst X dX7_isCapacity_14 ?_
      refine zr_zret X hr dX7_isCapacity_15 (by omega) ?_
      exact ⟨rfl, Or.inl rfl, fun q => absurd q (by decide), fun q => absurd q (by omega)⟩
    · refine zr_iconst X dX7_isCapacity_10 ?_
      refine zr_goto X 15 dX7_isCapacity_11 (by decide) ?_
      refine zr_zret X hr dX7_isCapacity_15 (by omega) ?_
      exact ⟨rfl, Or.inr rfl, fun _ => by omega, fun _ => rfl⟩

set_option maxHeartbeats 4000000 in
set_option maxRecDepth 100000 in
theorem c_X7_look (l : Launch) (D : va_G) (cs : Nat → ClassId) (ad : Ix → Nat) (hap : Apart idsM ad) {σ : Mem} (h : mOk σ) {a : Int} (ha : rg a) : CI l D cs idsM ad yX7_look cX7_look 2 .int 1 [(.ref (ad (4, 0))), (jI a)] σ (fun z τ => τ = σ ∧ ((z = 1 ∧ mEn σ) ∨ (z = 2 ∧ mEy σ ∧ ¬ (0 ≤ a ∧ a < σ (4, 3) 0)) ∨ (z = 0 ∧ mEy σ ∧ (0 ≤ a ∧ a < σ (4, 3) 0)))) := by
  refine CI.of RX7 hap idsM_nd (by decide) rfl (Nat.le_of_ble_eq_true rfl) ?_
  intro pg ev s0 mi av bl mt cd X K hr
  have hN := h.1
  have hn := hN.1
  have hm := hN.2.1
  have hE := h.2.2.1
  unfold mEn mEy at hE
  refine zr_aloadn X dX7_look_0 rfl ?_
  refine zr_get X K (C := RX7) (T := TX7) (N := 20) (k := 6) mM_0 rfl rfl ti_7 (by decide) rfl tw_706 rfl dX7_look_1 ?_
  refine zr_iconst X dX7_look_4 ?_
  refine zr_icmp_ne X 12 dX7_look_5 (by decide) ⟨by omega, by omega⟩ ⟨by omega, by omega⟩ (fun t_5 => ?_) (fun f_5 => ?_)
  · refine zr_aloadn X dX7_look_12 rfl ?_
    refine zr_iloadn X dX7_look_13 rfl ?_
    refine zr_callVI X K (q := (RX7, TX7, 20)) (st := []) (c_X7_isArc l D cs ad hap (σ := σ) hN (v := a) ha) ⟨tw_789, tw_791, tp_40, tw_8, tw_792⟩ dc_X7_isArc mM_0 rfl rfl rfl rfl rfl (Nat.le_of_ble_eq_true rfl) (by decide) dX7_look_14 ?_
    intro y τ_ hp_
    obtain ⟨hτ_, hy01, hy⟩ := hp_
    subst τ_
    refine zr_if_eq X 24 dX7_look_17 (by decide) (by rcases hy01 with q | q <;> exact ⟨by omega, by omega⟩) (fun t_17 => ?_) (fun f_17 => ?_)
    · refine zr_iconst X dX7_look_24 ?_
      refine zr_iret X hr dX7_look_25 ?_
      refine ⟨rfl, ?_⟩
      unfold mEn mEy
      omega
    · refine zr_iconst X dX7_look_20 ?_
      refine zr_goto X 25 dX7_look_21 (by decide) ?_
      refine zr_iret X hr dX7_look_25 ?_
      refine ⟨rfl, ?_⟩
      unfold mEn mEy
      omega
  · refine zr_iconst X dX7_look_8 ?_
    refine zr_goto X 25 dX7_look_9 (by decide) ?_
    refine zr_iret X hr dX7_look_25 ?_
    refine ⟨rfl, ?_⟩
    unfold mEn mEy
    omega

set_option maxHeartbeats 4000000 in
set_option maxRecDepth 100000 in
theorem c_X7_isIn (l : Launch) (D : va_G) (cs : Nat → ClassId) (ad : Ix → Nat) (hap : Apart idsM ad) {σ : Mem} {m v : Int} (hm : 0 ≤ m ∧ m < 2147483648) (hv : 0 ≤ v ∧ v < 31) : CI l D cs idsM ad yX7_isIn cX7_isIn 3 .boolean 0 [(.ref (ad (4, 0))), (jI m), (jI v)] σ (fun z τ => τ = σ ∧ z = if bt m v then 1 else 0) := by
  refine CI.of RX7 hap idsM_nd (by decide) rfl (Nat.le_of_ble_eq_true rfl) ?_
  intro pg ev s0 mi av bl mt cd X K hr
  have hs := sI_rg (v := v) hm.2
  refine zr_iloadn X dX7_isIn_0 rfl ?_
  refine zr_iloadn X dX7_isIn_1 rfl ?_
  refine zr_ishr X dX7_isIn_2 (zb_shr hm.1 hm.2 hv.1 hv.2) ?_
  refine zr_iconst X dX7_isIn_3 ?_
  refine zr_iand X dX7_isIn_4 (zb_and1 hs.1 hs.2) ?_
  refine zr_iconst X dX7_isIn_5 ?_
  refine zr_icmp_ne X 13 dX7_isIn_6 (by decide) ⟨by omega, by omega⟩ ⟨by omega, by omega⟩ (fun t_6 => ?_) (fun f_6 => ?_)
  · refine zr_iconst X dX7_isIn_13 ?_
    refine zr_zret X hr dX7_isIn_14 (by omega) ?_
    refine ⟨rfl, ?_⟩
    have h1 := sI_mod (m := m) (v := v)
    by_cases g : bt m v = true
    · (rw [if_pos g] at h1 ⊢) <;> omega
    · (rw [if_neg g] at h1 ⊢) <;> omega
  · refine zr_iconst X dX7_isIn_9 ?_
    refine zr_goto X 14 dX7_isIn_10 (by decide) ?_
    refine zr_zret X hr dX7_isIn_14 (by omega) ?_
    refine ⟨rfl, ?_⟩
    have h1 := sI_mod (m := m) (v := v)
    by_cases g : bt m v = true
    · (rw [if_pos g] at h1 ⊢) <;> omega
    · (rw [if_neg g] at h1 ⊢) <;> omega

set_option maxHeartbeats 4000000 in
set_option maxRecDepth 100000 in
theorem c_X7_empty (l : Launch) (D : va_G) (cs : Nat → ClassId) (ad : Ix → Nat) (hap : Apart idsM ad) {σ : Mem} (hN : mNet σ) : CV l D cs idsM ad yX7_empty cX7_empty 2 0 [(.ref (ad (4, 0)))] σ (fun τ => emI σ τ (σ (4, 3) 0)) := by
  refine CV.of RX7 hap idsM_nd (by decide) rfl (Nat.le_of_ble_eq_true rfl) ?_
  intro pg ev s0 mi av bl mt cd X K hr
  have hn := hN.1
  have hm := hN.2.1
  refine zr_iconst X dX7_empty_0 ?_
  refine zr_istoren X dX7_empty_1 (by decide) rfl ?_
  have loop_2 : ∀ (n_2 : Nat) (i : Int) (υ : Mem), ((0 ≤ i ∧ i ≤ σ (4, 3) 0) ∧ emI σ υ i) → (σ (4, 3) 0 - i).toNat < n_2 → Wx pg l ev (rmm 0 0 0) s0 mi av bl mt cd D cs idsM ad (Rg idsM ad) s0.heap 2 (MQ bl (qV D cs idsM ad ((fun τ => emI σ τ (σ (4, 3) 0)))) av s0 0 0 (Rg idsM ad)) 0 0 υ 2 [some (.ref (ad (4, 0))), some (jI i)] [] := by
    intro n_2
    induction n_2 with
    | zero => exact fun i υ hinv hn => absurd hn (Nat.not_lt_zero _)
    | succ n_2 ih_2 =>
      intro i υ hI_2 hn_2
      have hi0 := hI_2.1
      have g3 : υ (4, 3) 0 = σ (4, 3) 0 := congrFun (hI_2.2.1 (4, 3) (by decide)) 0
      refine zr_iloadn X dX7_empty_2 rfl ?_
      refine zr_aloadn X dX7_empty_3 rfl ?_
      refine zr_get X K (C := RX7) (T := TX7) (N := 20) (k := 2) mM_0 rfl rfl ti_7 (by decide) rfl tw_702 rfl dX7_empty_4 ?_
      refine zr_icmp_ge X 35 dX7_empty_7 (by decide) ⟨by omega, by omega⟩ ⟨by omega, by omega⟩ (fun t_7 => ?_) (fun f_7 => ?_)
      · refine zr_vret X hr dX7_empty_35 ?_
        have hi : i = σ (4, 3) 0 := by omega
        rw [hi] at hI_2
        exact hI_2.2
      · refine zr_aloadn X dX7_empty_10 rfl ?_
        refine zr_get X K (C := RX7) (T := TX7) (N := 20) (k := 15) mM_0 rfl rfl ti_7 (by decide) rfl tw_715 rfl dX7_empty_11 ?_
        refine zr_iloadn X dX7_empty_14 rfl ?_
        refine zr_aloadn X dX7_empty_15 rfl ?_
        refine zr_get X K (C := RX7) (T := TX7) (N := 20) (k := 5) mM_0 rfl rfl ti_7 (by decide) rfl tw_705 rfl dX7_empty_16 ?_
        refine zr_iloadn X dX7_empty_19 rfl ?_
        refine zr_iald X K (n := 80) mM_6 rfl (by decide) (by omega) dX7_empty_20 ?_
        refine zr_iast X K (n := 80) mM_16 (fun _ => rfl) rfl (by decide) (by omega) dX7_empty_21 ?_
        generalize hm_σ1 : mset υ (4, 16) i (υ (4, 6) i) = σ1
        refine zr_aloadn X dX7_empty_22 rfl ?_
        refine zr_get X K (C := RX7) (T := TX7) (N := 20) (k := 16) mM_0 rfl rfl ti_7 (by decide) rfl tw_716 rfl dX7_empty_23 ?_
        refine zr_iloadn X dX7_empty_26 rfl ?_
        refine zr_iconst X dX7_empty_27 ?_
        refine zr_iast X K (n := 80) mM_17 (fun _ => rfl) rfl (by decide) (by omega) dX7_empty_28 ?_
        generalize hm_σ2 : mset σ1 (4, 17) i 0 = σ2
        refine zr_iinc X dX7_empty_29 rfl (by decide) rfl ?_
        refine zr_goto X 2 dX7_empty_32 (by decide) ?_
        refine Wx.weak (lo' := [some (.ref (ad (4, 0))), some (jI (i + 1))]) ⟨rfl, rfl, trivial⟩ ?_
        exact ih_2 _ _ ⟨⟨by omega, by omega⟩, em_s hI_2.2 hm_σ1 hm_σ2⟩ (by omega)
  refine Wx.weak (lo' := [some (.ref (ad (4, 0))), some (jI 0)]) ⟨rfl, rfl, trivial⟩ ?_
  exact loop_2 _ _ _ ⟨⟨by omega, by omega⟩, fun _ _ => rfl, fun a b c => by omega⟩ (Nat.lt_succ_self _)

set_option maxHeartbeats 4000000 in
set_option maxRecDepth 100000 in
theorem c_X7_maximumNow (l : Launch) (D : va_G) (cs : Nat → ClassId) (ad : Ix → Nat) (hap : Apart idsM ad) {σ : Mem} (hN : mNet σ) (hc : ∀ a, 0 ≤ a → a < σ (4, 3) 0 → 0 ≤ σ (4, 6) a ∧ σ (4, 6) a ≤ 200000000) (hE : mEy σ) (hb : cut2 σ (σ (4, 6)) (σ (4, 7) 0) (σ (4, 8) 0)) : CI l D cs idsM ad yX7_maximumNow cX7_maximumNow 1 .int 2 [(.ref (ad (4, 0)))] σ (fun z τ => mstP σ τ (σ (4, 6)) (σ (4, 7) 0) (σ (4, 8) 0) z) := by
  refine CI.of RX7 hap idsM_nd (by decide) rfl (Nat.le_of_ble_eq_true rfl) ?_
  intro pg ev s0 mi av bl mt cd X K hr
  have hn := hN.1
  have hm := hN.2.1
  have hEe := hE
  unfold mEy at hEe
  refine zr_aloadn X dX7_maximumNow_0 rfl ?_
  refine zr_callVV X K (q := (RX7, TX7, 20)) (st := []) (c_X7_empty l D cs ad hap (σ := σ) hN) ⟨tw_849, tw_851, tp_42, tw_8, tw_852⟩ dc_X7_empty mM_0 rfl rfl rfl rfl rfl (Nat.le_of_ble_eq_true rfl) (by decide) dX7_maximumNow_1 ?_
  intro υ hem
  have hNu := hem.1.net hN
  have u2 : υ (4, 2) 0 = σ (4, 2) 0 := congrFun (hem.1 (4, 2) (by decide)) 0
  have u7 : υ (4, 7) 0 = σ (4, 7) 0 := congrFun (hem.1 (4, 7) (by decide)) 0
  have u8 : υ (4, 8) 0 = σ (4, 8) 0 := congrFun (hem.1 (4, 8) (by decide)) 0
  refine zr_aloadn X dX7_maximumNow_4 rfl ?_
  refine zr_aloadn X dX7_maximumNow_5 rfl ?_
  refine zr_get X K (C := RX7) (T := TX7) (N := 20) (k := 6) mM_0 rfl rfl ti_7 (by decide) rfl tw_706 rfl dX7_maximumNow_6 ?_
  refine zr_aloadn X dX7_maximumNow_9 rfl ?_
  refine zr_get X K (C := RX7) (T := TX7) (N := 20) (k := 7) mM_0 rfl rfl ti_7 (by decide) rfl tw_707 rfl dX7_maximumNow_10 ?_
  refine zr_ldc (n := 200000000) X dX7_maximumNow_13 tw_853 rfl ?_
  refine zr_callVI X K (q := (RX7, TX7, 20)) (st := []) (c_X7_fill l D cs ad hap (σ := υ) hNu (mres_of hem.1 hc hem.2) (u := υ (4, 7) 0) (t := υ (4, 8) 0) (L := 200000000) (by omega) (by omega) (by omega) ⟨by omega, by omega⟩) ⟨tw_854, tw_856, tp_43, tw_8, tw_857⟩ dc_X7_fill mM_0 rfl rfl rfl rfl rfl (Nat.le_of_ble_eq_true rfl) (by decide) dX7_maximumNow_15 ?_
  intro z τ hfi
  rw [u7, u8] at hfi
  refine zr_iret X hr dX7_maximumNow_18 ?_
  exact mst_of hm.1 hem.1 hem.2 hb hfi

theorem mif_of {σ σ1 τ1 τ : Mem} {a c z : Int} (hm : 0 ≤ σ (4, 3) 0) (e1 : mset σ (4, 6) a c = σ1) (k : mstP σ1 τ1 (σ1 (4, 6)) (σ1 (4, 7) 0) (σ1 (4, 8) 0) z) (e2 : mset τ1 (4, 6) a (σ (4, 6) a) = τ) : frX σ τ ∧ mnM σ (updC (σ (4, 6)) a c) (σ (4, 7) 0) (σ (4, 8) 0) z := by
  have q : ∀ p : Ix, p ≠ (4, 6) → σ1 p = σ p := fun p hp => by rw [← e1, mset_id hp]
  have q6 : σ1 (4, 6) = updC (σ (4, 6)) a c := by
    funext j
    rw [← e1, mset_at]
    rfl
  have h := mst_mn (by rw [q _ (by decide)]; exact hm) k
  unfold mnM at h
  rw [q (4, 3) (by decide), q (4, 4) (by decide), q (4, 5) (by decide), q (4, 7) (by decide), q (4, 8) (by decide), q6] at h
  refine ⟨fun p hp => ?_, h⟩
  by_cases e : p = (4, 6)
  · rw [e]
    funext j
    rw [← e2, mset_at, k.1 (4, 6) (by decide), q6]
    unfold updC
    by_cases g : j = a
    · rw [if_pos g, g]
    · rw [if_neg g, if_neg g]
  · rw [← e2, mset_id e, k.1 p hp, q p e]
theorem mset_net {σ τ : Mem} {k : Nat} {a c : Int} (e : mset σ (4, k) a c = τ) (hk : k ≠ 2 ∧ k ≠ 3 ∧ k ≠ 4 ∧ k ≠ 5) (h : mNet σ) : mNet τ := by
  have q : ∀ j : Nat, j ≠ k → τ (4, j) = σ (4, j) := fun j hj => by rw [← e]; exact mset_id (fun z => hj (congrArg Prod.snd z))
  unfold mNet at h ⊢
  rw [q 2 (by omega), q 3 (by omega), q 4 (by omega), q 5 (by omega)]
  exact h

set_option maxHeartbeats 4000000 in
set_option maxRecDepth 100000 in
theorem c_X7_maximumIf (l : Launch) (D : va_G) (cs : Nat → ClassId) (ad : Ix → Nat) (hap : Apart idsM ad) {σ : Mem} (hN : mNet σ) (hc : ∀ a, 0 ≤ a → a < σ (4, 3) 0 → 0 ≤ σ (4, 6) a ∧ σ (4, 6) a ≤ 200000000) (hE : mEy σ) {a c : Int} (ha : 0 ≤ a ∧ a < σ (4, 3) 0) (hcc : 0 ≤ c ∧ c ≤ 200000000) (hb : cut2 σ (updC (σ (4, 6)) a c) (σ (4, 7) 0) (σ (4, 8) 0)) : CI l D cs idsM ad yX7_maximumIf cX7_maximumIf 5 .int 3 [(.ref (ad (4, 0))), (jI a), (jI c)] σ (fun z τ => frX σ τ ∧ mnM σ (updC (σ (4, 6)) a c) (σ (4, 7) 0) (σ (4, 8) 0) z) := by
  refine CI.of RX7 hap idsM_nd (by decide) rfl (Nat.le_of_ble_eq_true rfl) ?_
  intro pg ev s0 mi av bl mt cd X K hr
  have hn := hN.1
  have hm := hN.2.1
  refine zr_aloadn X dX7_maximumIf_0 rfl ?_
  refine zr_get X K (C := RX7) (T := TX7) (N := 20) (k := 5) mM_0 rfl rfl ti_7 (by decide) rfl tw_705 rfl dX7_maximumIf_1 ?_
  refine zr_iloadn X dX7_maximumIf_4 rfl ?_
  refine zr_iald X K (n := 80) mM_6 rfl (by decide) (by omega) dX7_maximumIf_5 ?_
  refine zr_istoren X dX7_maximumIf_6 (by decide) rfl ?_
  refine zr_aloadn X dX7_maximumIf_7 rfl ?_
  refine zr_get X K (C := RX7) (T := TX7) (N := 20) (k := 5) mM_0 rfl rfl ti_7 (by decide) rfl tw_705 rfl dX7_maximumIf_8 ?_
  refine zr_iloadn X dX7_maximumIf_11 rfl ?_
  refine zr_iloadn X dX7_maximumIf_12 rfl ?_
  refine zr_iast X K (n := 80) mM_6 (fun _ => rfl) rfl (by decide) (by omega) dX7_maximumIf_13 ?_
  generalize hm_σ1 : mset σ (4, 6) a c = σ1
  have q6 : ∀ p : Ix, p ≠ (4, 6) → σ1 p = σ p := fun p hp => by rw [← hm_σ1, mset_id hp]
  have q66 : σ1 (4, 6) = updC (σ (4, 6)) a c := by
    funext j
    rw [← hm_σ1, mset_at]
    rfl
  have hN1 := mset_net hm_σ1 ⟨by decide, by decide, by decide, by decide⟩ hN
  have hE1 : mEy σ1 := by
    unfold mEy at hE ⊢
    rw [q6 (4, 7) (by decide), q6 (4, 8) (by decide), q6 (4, 2) (by decide)]
    exact hE
  have hb1 : cut2 σ1 (σ1 (4, 6)) (σ1 (4, 7) 0) (σ1 (4, 8) 0) := by
    unfold cut2 at hb ⊢
    rw [q6 (4, 3) (by decide), q6 (4, 4) (by decide), q6 (4, 5) (by decide), q6 (4, 7) (by decide), q6 (4, 8) (by decide), q66]
    exact hb
  have hc1 : ∀ j, 0 ≤ j → j < σ1 (4, 3) 0 → 0 ≤ σ1 (4, 6) j ∧ σ1 (4, 6) j ≤ 200000000 := fun j j0 j1 => by
    rw [q6 (4, 3) (by decide)] at j1
    rw [q66]
    unfold updC
    split
    · exact hcc
    · exact hc j j0 j1
  refine zr_aloadn X dX7_maximumIf_14 rfl ?_
  refine zr_callVI X K (q := (RX7, TX7, 20)) (st := []) (c_X7_maximumNow l D cs ad hap (σ := σ1) hN1 hc1 hE1 hb1) ⟨tw_845, tw_847, tp_41, tw_8, tw_848⟩ dc_X7_maximumNow mM_0 rfl rfl rfl rfl rfl (Nat.le_of_ble_eq_true rfl) (by decide) dX7_maximumIf_15 ?_
  intro z τ1 hst
  refine zr_istore X dX7_maximumIf_18 (by decide) rfl ?_
  refine zr_aloadn X dX7_maximumIf_20 rfl ?_
  refine zr_get X K (C := RX7) (T := TX7) (N := 20) (k := 5) mM_0 rfl rfl ti_7 (by decide) rfl tw_705 rfl dX7_maximumIf_21 ?_
  refine zr_iloadn X dX7_maximumIf_24 rfl ?_
  refine zr_iloadn X dX7_maximumIf_25 rfl ?_
  refine zr_iast X K (n := 80) mM_6 (fun _ => rfl) rfl (by decide) (by omega) dX7_maximumIf_26 ?_
  generalize hm_σ2 : mset τ1 (4, 6) a (σ (4, 6) a) = σ2
  refine zr_iload X dX7_maximumIf_27 rfl ?_
  refine zr_iret X hr dX7_maximumIf_29 ?_
  exact mif_of hm.1 hm_σ1 hst hm_σ2
