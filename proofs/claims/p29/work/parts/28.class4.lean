/-! THE CLASS: levels, nodes and arcs -/
def pushP (σ τ : Mem) : Prop := (∀ q : Ix, q ∉ [((3, 0) : Ix), (3, 1), (3, 2), (2, (σ (3, 0) 0).toNat)] → τ q = σ q) ∧ τ (3, 0) 0 = σ (3, 0) 0 + 1 ∧ (∀ i, τ (3, 1) i = if i = σ (3, 0) 0 then σ (6, 8) 0 else σ (3, 1) i) ∧ (∀ i, τ (3, 2) i = if i = σ (3, 0) 0 then σ (6, 9) 0 else σ (3, 2) i) ∧ ∀ a, 0 ≤ a → a < 80 → τ (2, (σ (3, 0) 0).toNat) a = σ (6, 2) a
theorem push_of {σ σ1 σ2 σ3 τ : Mem} (e1 : mcopy σ (6, 2) (2, (σ (3, 0) 0).toNat) 80 = σ1) (e2 : mset σ1 (3, 1) (σ1 (3, 0) 0) (σ1 (6, 8) 0) = σ2) (e3 : mset σ2 (3, 2) (σ2 (3, 0) 0) (σ2 (6, 9) 0) = σ3) (e4 : mset σ3 (3, 0) 0 (σ3 (3, 0) 0 + 1) = τ) : pushP σ τ := by
  have n3 : ∀ k : Nat, ((3, k) : Ix) ≠ (2, (σ (3, 0) 0).toNat) := fun k e => by cases e
  have n6 : ∀ k : Nat, ((6, k) : Ix) ≠ (2, (σ (3, 0) 0).toNat) := fun k e => by cases e
  have m3 : ∀ k : Nat, ((2, (σ (3, 0) 0).toNat) : Ix) ≠ (3, k) := fun k e => by cases e
  have f1 : ∀ q, q ≠ (2, (σ (3, 0) 0).toNat) → σ1 q = σ q := fun q hq => by rw [← e1]; exact mcopy_id hq
  have f2 : ∀ q, q ≠ (3, 1) → σ2 q = σ1 q := fun q hq => by rw [← e2]; exact mset_id hq
  have f3 : ∀ q, q ≠ (3, 2) → σ3 q = σ2 q := fun q hq => by rw [← e3]; exact mset_id hq
  have f4 : ∀ q, q ≠ (3, 0) → τ q = σ3 q := fun q hq => by rw [← e4]; exact mset_id hq
  have c1 : σ1 (3, 0) = σ (3, 0) := f1 _ (n3 0)
  have c2 : σ2 (3, 0) = σ (3, 0) := (f2 _ (by decide)).trans c1
  refine ⟨fun q hq => ?_, ?_, fun i => ?_, fun i => ?_, fun a a0 a1 => ?_⟩
  · simp only [List.mem_cons, List.not_mem_nil, or_false, not_or] at hq
    rw [f4 q hq.1, f3 q hq.2.2.1, f2 q hq.2.1, f1 q hq.2.2.2]
  · rw [← e4, mset_same, f3 _ (by decide), c2]
  · rw [f4 _ (by decide), f3 _ (by decide), ← e2, mset_at, c1, f1 _ (n6 8), f1 _ (n3 1)]
  · rw [f4 _ (by decide), ← e3, mset_at, c2, f2 _ (by decide), f1 _ (n6 9), f2 _ (by decide), f1 _ (n3 2)]
  · rw [f4 _ (m3 0), f3 _ (m3 2), f2 _ (m3 1), ← e1, mcopy_in a0 a1]
theorem push_ok {σ τ : Mem} (h : fnOk σ) (hc : σ (3, 0) 0 < 8) (k : pushP σ τ) : fnOk τ := by
  obtain ⟨k1, k2, k3, k4, k5⟩ := k
  have hl := h.2.2.1
  have n0 : ∀ g j : Nat, g ≠ 2 → g ≠ 3 → τ (g, j) = σ (g, j) := fun g j h2 h3 => k1 _ (fun q => by
    simp only [List.mem_cons, List.not_mem_nil, or_false] at q
    rcases q with q | q | q | q
    · exact h3 (congrArg Prod.fst q)
    · exact h3 (congrArg Prod.fst q)
    · exact h3 (congrArg Prod.fst q)
    · exact h2 (congrArg Prod.fst q))
  refine ⟨mf_cong (fun g j hg => n0 g j (by omega) (by omega)) (fun j => n0 6 j (by decide) (by decide)) h.1, ?_, ⟨by have := hl.1; omega, fun i i0 i1 => ?_, fun i i0 i1 a a0 a1 => ?_⟩, ?_⟩
  · have := h.2.1
    unfold capOk at this ⊢
    rw [n0 6 2 (by decide) (by decide)]
    exact this
  · rw [k3, k4, n0 0 0 (by decide) (by decide)]
    by_cases q : i = σ (3, 0) 0
    · rw [if_pos q, if_pos q]
      exact h.ends
    · rw [if_neg q, if_neg q]
      exact hl.2.1 i i0 (by omega)
  · by_cases q : i = σ (3, 0) 0
    · rw [q, k5 a a0 a1]
      exact h.2.1 a a0 a1
    · rw [k1 (2, i.toNat) (fun g => by
        simp only [List.mem_cons, List.not_mem_nil, or_false] at g
        rcases g with g | g | g | g
        · cases g
        · cases g
        · cases g
        · have : i.toNat = (σ (3, 0) 0).toNat := congrArg Prod.snd g
          have := hl.1
          omega)]
      exact hl.2.2 i i0 (by omega) a a0 a1
  · have := h.2.2.2
    unfold cuOk at this ⊢
    rw [k1 (3, 4) (fun g => by
        simp only [List.mem_cons, List.not_mem_nil, or_false] at g
        rcases g with g | g | g | g
        · cases g
        · cases g
        · cases g
        · cases g)]
    exact this
def popP (σ τ : Mem) : Prop := (∀ g k : Nat, g < 6 → ((g, k) : Ix) ≠ (3, 0) → τ (g, k) = σ (g, k)) ∧ τ (3, 0) 0 = σ (3, 0) 0 - 1 ∧ (∀ j, τ (6, 2) j = if 0 ≤ j ∧ j < σ (0, 1) 0 then σ (2, (σ (3, 0) 0 - 1).toNat) j else σ (6, 2) j) ∧ τ (6, 8) 0 = σ (3, 1) (σ (3, 0) 0 - 1) ∧ τ (6, 9) 0 = σ (3, 2) (σ (3, 0) 0 - 1)
theorem pop_ok {σ τ : Mem} (h : fnOk σ) (hc : 0 < σ (3, 0) 0) (hm : mfOk τ 0) (k : popP σ τ) : fnOk τ := by
  obtain ⟨k1, k2, k3, -, -⟩ := k
  have hl := h.2.2.1
  refine ⟨hm, fun a a0 a1 => ?_, ⟨by have := hl.1; omega, fun i i0 i1 => ?_, fun i i0 i1 a a0 a1 => ?_⟩, ?_⟩
  · rw [k3]
    split
    · exact hl.2.2 _ (by omega) (by omega) a a0 a1
    · exact h.2.1 a a0 a1
  · rw [k1 3 1 (by decide) (by decide), k1 3 2 (by decide) (by decide), k1 0 0 (by decide) (by decide)]
    exact hl.2.1 i i0 (by omega)
  · rw [k1 2 _ (by decide) (fun e => by cases e)]
    exact hl.2.2 i i0 (by omega) a a0 a1
  · have := h.2.2.2
    unfold cuOk at this ⊢
    rw [k1 3 4 (by decide) (by decide)]
    exact this
def popI (σ σ1 υ : Mem) (v i : Int) : Prop := mfOk υ 0 ∧ (∀ g k : Nat, g < 6 → υ (g, k) = σ1 (g, k)) ∧ (∀ j, υ (6, 2) j = if 0 ≤ j ∧ j < i then σ (2, v.toNat) j else σ (6, 2) j) ∧ υ (6, 8) 0 = σ (3, 1) v ∧ υ (6, 9) 0 = σ (3, 2) v
theorem pop_0 {σ σ1 υ : Mem} {v z : Int} (hq : ∀ q : Ix, q ≠ (3, 0) → σ1 q = σ q) (k : ceP σ1 υ 0 (σ1 (3, 1) v) (σ1 (3, 2) v) z) : popI σ σ1 υ v 0 := by
  refine ⟨k.1, fun g q hg => k.2.1 g q (Or.inl (by omega)), fun j => ?_, ?_, ?_⟩
  · rw [if_neg (fun q => by omega), ← hq (6, 2) (by decide)]
    exact congrFun (k.2.1 6 2 (Or.inr (by decide))) j
  · rw [← hq (3, 1) (by decide)]
    exact k.2.2.1.1
  · rw [← hq (3, 2) (by decide)]
    exact k.2.2.1.2
theorem pop_s {σ σ1 υ τ : Mem} {v i x : Int} (h0 : 0 ≤ i) (h : popI σ σ1 υ v i) (hx : x = σ (2, v.toNat) i) (k : ccP υ τ 0 i x) : popI σ σ1 τ v (i + 1) := by
  obtain ⟨-, h1, h2, h3, h4⟩ := h
  obtain ⟨k1, k2, k3⟩ := k
  refine ⟨k1, fun g q hg => (k2.1 g q (Or.inl (by omega))).trans (h1 g q hg), fun j => ?_, (congrFun (k2.own 8) 0).trans h3, (congrFun (k2.own 9) 0).trans h4⟩
  refine (k3 j).trans ?_
  by_cases e : j = i
  · rw [if_pos e, if_pos ⟨by omega, by omega⟩, hx, e]
  · rw [if_neg e, show υ (0 + 6, 2) j = υ (6, 2) j from rfl, h2 j]
    by_cases g : 0 ≤ j ∧ j < i
    · rw [if_pos g, if_pos ⟨by omega, by omega⟩]
    · rw [if_neg g, if_neg (fun q => by omega)]
/-! a new node -/
def anP (σ τ : Mem) : Prop := (∀ q : Ix, q ≠ (0, 0) → τ q = σ q) ∧ τ (0, 0) 0 = σ (0, 0) 0 + 1
theorem an_ok {σ τ : Mem} (h : fnOk σ) (hc : σ (0, 0) 0 < 24) (k : anP σ τ) : fnOk τ := by
  obtain ⟨k1, k2⟩ := k
  obtain ⟨⟨⟨hN, hA, hF⟩, hE, ⟨F, hF0, hV⟩, h0, h10, hs, hz⟩, hC, hL, hU⟩ := h
  have e : ∀ g j : Nat, g ≠ 0 → τ (g, j) = σ (g, j) := fun g j hg => k1 _ (fun q => hg (congrArg Prod.fst q))
  have e1 : τ (0, 1) = σ (0, 1) := k1 _ (by decide)
  have e2 : τ (0, 2) = σ (0, 2) := k1 _ (by decide)
  have e3 : τ (0, 3) = σ (0, 3) := k1 _ (by decide)
  have e4 : τ (0, 4) = σ (0, 4) := k1 _ (by decide)
  have ey : endsYes σ 0 → endsYes τ 0 := fun q => by
    obtain ⟨q1, q2, q3⟩ := ends_of q
    show (0 ≤ τ (6, 8) 0 ∧ τ (6, 8) 0 < τ (0, 0) 0) ∧ (0 ≤ τ (6, 9) 0 ∧ τ (6, 9) 0 < τ (0, 0) 0) ∧ τ (6, 8) 0 ≠ τ (6, 9) 0
    rw [e 6 8 (by decide), e 6 9 (by decide), k2]
    exact ⟨⟨q1.1, by omega⟩, ⟨q2.1, by omega⟩, q3⟩
  refine ⟨⟨⟨⟨by have := hN.1; omega, by rw [e1]; exact hN.2.1, fun a a0 a1 => ?_⟩, ⟨fun v v0 v1 => ?_, fun v v0 v1 => ?_, ?_, ?_⟩, ?_⟩, hE.imp (fun q => ?_) ey, ⟨F, hF0, fun X => ?_⟩, fun q => ?_, ?_, fun q => ?_, ?_⟩, ?_, ⟨?_, fun i i0 i1 => ?_, ?_⟩, ?_⟩
  · rw [e1] at a1
    rw [e2, e3, k2]
    have := hN.2.2 a a0 a1
    omega
  · rw [e4, e1]; exact hA.1 v v0 v1
  · rw [e4]; exact hA.2.1 v (by omega) v1
  · have e' : ∀ v : Nat, τ (1, v) = σ (1, v) := fun v => e 1 v (by decide)
    simp only [e1, e2, e3, e4, e']
    exact hA.2.2.1
  · have e' : ∀ v : Nat, τ (1, v) = σ (1, v) := fun v => e 1 v (by decide)
    simp only [e1, e2, e3, e4, e']
    exact hA.2.2.2
  · unfold FlOk at hF ⊢
    rw [e1, e _ 2 (by omega), e _ 3 (by omega)]
    exact hF
  · unfold endsNo at q ⊢
    rw [e _ 8 (by omega), e _ 9 (by omega)]
    exact q
  · rw [net_same e1 e2 e3 (e _ 3 (by omega)), e _ 8 (by omega), e _ 9 (by omega)]
    exact hV X
  · unfold endsNo at q
    rw [e _ 8 (by omega), e _ 9 (by omega)] at q
    rw [e1, e _ 3 (by omega)]
    exact h0 q
  · rw [e _ 10 (by omega)]; exact h10
  · rw [e _ 10 (by omega)] at q
    obtain ⟨g1, X, g2, g3, g4⟩ := hs q
    refine ⟨ey g1, X, ?_, ?_, clo_same e1 e2 e3 (e _ 2 (by omega)) (e _ 3 (by omega)) g4⟩
    · rw [e _ 8 (by omega)]; exact g2
    · rw [e _ 9 (by omega)]; exact g3
  · rw [e1, e _ 2 (by omega), e _ 3 (by omega)]
    exact hz
  · unfold capOk at hC ⊢
    rw [e 6 2 (by decide)]
    exact hC
  · rw [e 3 0 (by decide)]; exact hL.1
  · rw [e 3 0 (by decide)] at i1
    rw [e 3 1 (by decide), e 3 2 (by decide), k2]
    have := hL.2.1 i i0 i1
    omega
  · have e' : ∀ v : Nat, τ (2, v) = σ (2, v) := fun v => e 2 v (by decide)
    simp only [e 3 0 (by decide), e']
    exact hL.2.2
  · unfold cuOk at hU ⊢
    rw [e 3 4 (by decide)]
    exact hU
/-! a new arc -/
def atP (σ τ : Mem) (v a : Int) : Prop := (∀ q : Ix, q ≠ (0, 4) → q ≠ (1, v.toNat) → τ q = σ q) ∧ (∀ j, τ (0, 4) j = if j = v then σ (0, 4) v + 1 else σ (0, 4) j) ∧ ∀ i, τ (1, v.toNat) i = if i = σ (0, 4) v then a else σ (1, v.toNat) i
def maP (σ τ : Mem) (f g : Int) : Prop := (∀ h k : Nat, h ≠ 0 → h ≠ 1 → τ (h, k) = σ (h, k)) ∧ τ (0, 0) = σ (0, 0) ∧ τ (0, 1) 0 = σ (0, 1) 0 + 1 ∧ (∀ j, τ (0, 2) j = if j = σ (0, 1) 0 then f else σ (0, 2) j) ∧ (∀ j, τ (0, 3) j = if j = σ (0, 1) 0 then g else σ (0, 3) j) ∧
  (∀ v, τ (0, 4) v = σ (0, 4) v + (if v = f then 1 else 0) + (if v = g then 1 else 0)) ∧ ∀ v, 0 ≤ v → ∀ i, τ (1, v.toNat) i = if (v = f ∨ v = g) ∧ i = σ (0, 4) v then σ (0, 1) 0 else σ (1, v.toNat) i
theorem ma_of {σ σ1 σ2 σ3 σ4 τ : Mem} {f g : Int} (hf : 0 ≤ f) (hg : 0 ≤ g) (hfg : f ≠ g) (e1 : mset σ (0, 1) 0 (σ (0, 1) 0 + 1) = σ1) (e2 : mset σ1 (0, 2) (σ (0, 1) 0) f = σ2) (e3 : mset σ2 (0, 3) (σ (0, 1) 0) g = σ3) (k4 : atP σ3 σ4 f (σ (0, 1) 0)) (k5 : atP σ4 τ g (σ (0, 1) 0)) : maP σ τ f g := by
  have f1 : ∀ q, q ≠ (0, 1) → σ1 q = σ q := fun q hq => by rw [← e1]; exact mset_id hq
  have f2 : ∀ q, q ≠ (0, 2) → σ2 q = σ1 q := fun q hq => by rw [← e2]; exact mset_id hq
  have f3 : ∀ q, q ≠ (0, 3) → σ3 q = σ2 q := fun q hq => by rw [← e3]; exact mset_id hq
  have n1 : ∀ k v : Nat, ((0, k) : Ix) ≠ (1, v) := fun k v e => by cases e
  have n0 : ∀ k v : Nat, ((1, v) : Ix) ≠ (0, k) := fun k v e => by cases e
  have d3 : ∀ q, q ≠ (0, 1) → q ≠ (0, 2) → q ≠ (0, 3) → σ3 q = σ q := fun q a b c => by rw [f3 q c, f2 q b, f1 q a]
  obtain ⟨a1, a2, a3⟩ := k4
  obtain ⟨b1, b2, b3⟩ := k5
  have g4 : σ3 (0, 4) = σ (0, 4) := d3 _ (by decide) (by decide) (by decide)
  refine ⟨fun h k h0 h1 => ?_, ?_, ?_, fun j => ?_, fun j => ?_, fun v => ?_, fun v v0 i => ?_⟩
  · have q0 : ∀ j : Nat, ((h, k) : Ix) ≠ (0, j) := fun j e => h0 (congrArg Prod.fst e)
    have q1 : ∀ j : Nat, ((h, k) : Ix) ≠ (1, j) := fun j e => h1 (congrArg Prod.fst e)
    rw [b1 _ (q0 4) (q1 _), a1 _ (q0 4) (q1 _), d3 _ (q0 1) (q0 2) (q0 3)]
  · rw [b1 _ (by decide) (n1 _ _), a1 _ (by decide) (n1 _ _), d3 _ (by decide) (by decide) (by decide)]
  · rw [b1 _ (by decide) (n1 _ _), a1 _ (by decide) (n1 _ _), f3 _ (by decide), f2 _ (by decide), ← e1, mset_same]
  · rw [b1 _ (by decide) (n1 _ _), a1 _ (by decide) (n1 _ _), f3 _ (by decide), ← e2, mset_at, f1 _ (by decide)]
  · rw [b1 _ (by decide) (n1 _ _), a1 _ (by decide) (n1 _ _), ← e3, mset_at, f2 _ (by decide), f1 _ (by decide)]
  · rw [b2, a2, a2, g4]
    by_cases p : v = f <;> by_cases q : v = g
    · omega
    · rw [if_neg q, if_pos p, if_pos p, if_neg q, p]; omega
    · rw [if_pos q, if_neg (fun e => hfg e.symm), if_neg p, if_pos q, q]; omega
    · rw [if_neg q, if_neg p, if_neg p, if_neg q]; omega
  · have hne : ∀ x y : Int, 0 ≤ x → 0 ≤ y → x ≠ y → ((1, x.toNat) : Ix) ≠ (1, y.toNat) := fun x y x0 y0 hxy e => by
      have : x.toNat = y.toNat := congrArg Prod.snd e
      omega
    have r3 : σ3 (1, v.toNat) = σ (1, v.toNat) := d3 _ (n0 _ _) (n0 _ _) (n0 _ _)
    by_cases p : v = f
    · subst p
      rw [b1 _ (n0 _ _) (hne _ _ v0 hg hfg), a3, g4, r3]
      by_cases q : i = σ (0, 4) v
      · rw [if_pos q, if_pos ⟨Or.inl rfl, q⟩]
      · rw [if_neg q, if_neg (fun e => q e.2)]
    · by_cases q : v = g
      · subst q
        have w4 : σ4 (0, 4) v = σ (0, 4) v := by rw [a2, if_neg p, g4]
        rw [b3, w4, a1 _ (n0 _ _) (hne _ _ v0 hf p), r3]
        by_cases q : i = σ (0, 4) v
        · rw [if_pos q, if_pos ⟨Or.inr rfl, q⟩]
        · rw [if_neg q, if_neg (fun e => q e.2)]
      · rw [b1 _ (n0 _ _) (hne _ _ v0 hg q), a1 _ (n0 _ _) (hne _ _ v0 hf p), r3, if_neg (fun e => e.1.elim p q)]
theorem ma_ok {σ τ : Mem} {f g : Int} (h : mfOk σ 0) (hm : σ (0, 1) 0 < 80) (hf : 0 ≤ f ∧ f < σ (0, 0) 0) (hg : 0 ≤ g ∧ g < σ (0, 0) 0) (hfg : f ≠ g) (k : maP σ τ f g) : mfOk τ 0 := by
  obtain ⟨k0, k1, k2, k3, k4, k5, k6⟩ := k
  obtain ⟨⟨hN, hA, hF⟩, hE, ⟨F, hF0, hV⟩, h0, h10, hs, hz⟩ := h
  have hN1 := hN.1
  have hN2 := hN.2.1
  have e : ∀ j : Nat, τ (0 + 6, j) = σ (0 + 6, j) := fun j => k0 _ j (by omega) (by omega)
  have z0 := hz (σ (0, 1) 0) (Int.le_refl _) hm
  have ey : endsYes σ 0 → endsYes τ 0 := fun q => by
    unfold endsYes at q ⊢
    rw [e 8, e 9, k1]
    exact q
  have t2 : ∀ a, 0 ≤ a → a < σ (0, 1) 0 → τ (0, 2) a = σ (0, 2) a ∧ τ (0, 3) a = σ (0, 3) a := fun a a0 a1 => by
    rw [k3, k4, if_neg (by omega), if_neg (by omega)]
    exact ⟨rfl, rfl⟩
  refine ⟨⟨⟨by rw [k1]; exact hN.1, by omega, fun a a0 a1 => ?_⟩, ⟨fun v v0 v1 => ?_, fun v v0 v1 => ?_, fun v i v0 v1 i0 i1 => ?_, fun a a0 a1 => ?_⟩, fun a a0 a1 => ?_⟩, hE.imp (fun q => ?_) ey, ⟨F, hF0, fun X => ?_⟩, fun q a a0 a1 => ?_, ?_, fun q => ?_, fun a a0 a1 => ?_⟩
  · rw [k1]
    by_cases q : a = σ (0, 1) 0
    · rw [k3, k4, if_pos q, if_pos q]
      exact ⟨hf, hg, hfg⟩
    · rw [(t2 a a0 (by omega)).1, (t2 a a0 (by omega)).2]
      exact hN.2.2 a a0 (by omega)
  · rw [k5, k2]
    have := hA.1 v v0 v1
    by_cases p : v = f <;> by_cases q : v = g
    · omega
    · rw [if_pos p, if_neg q]; omega
    · rw [if_neg p, if_pos q]; omega
    · rw [if_neg p, if_neg q]; omega
  · rw [k1] at v0
    rw [k5, if_neg (by omega), if_neg (by omega), hA.2.1 v v0 v1]
    rfl
  · rw [k6 v v0 i, k2]
    by_cases q : (v = f ∨ v = g) ∧ i = σ (0, 4) v
    · rw [if_pos q, k3, k4, if_pos rfl, if_pos rfl]
      exact ⟨⟨hN2.1, by omega⟩, q.1.imp Eq.symm Eq.symm⟩
    · rw [if_neg q]
      have hi : i < σ (0, 4) v := by
        rw [k5] at i1
        by_cases p1 : v = f
        · have : i ≠ σ (0, 4) v := fun e => q ⟨Or.inl p1, e⟩
          rw [if_pos p1, if_neg (by omega)] at i1
          omega
        · by_cases p2 : v = g
          · have : i ≠ σ (0, 4) v := fun e => q ⟨Or.inr p2, e⟩
            rw [if_neg p1, if_pos p2] at i1
            omega
          · rw [if_neg p1, if_neg p2] at i1
            omega
      have := hA.2.2.1 v i v0 v1 i0 hi
      rw [(t2 _ this.1.1 this.1.2).1, (t2 _ this.1.1 this.1.2).2]
      exact ⟨⟨this.1.1, by omega⟩, this.2⟩
  · have key : ∀ v, 0 ≤ v → v < 24 → ∀ i, 0 ≤ i → i < σ (0, 4) v → i < τ (0, 4) v ∧ τ (1, v.toNat) i = σ (1, v.toNat) i := fun v v0 v1 i i0 i1 => by
      refine ⟨by rw [k5]; split <;> split <;> omega, ?_⟩
      rw [k6 v v0 i]
      exact if_neg (fun q => by omega)
    by_cases q : a = σ (0, 1) 0
    · rw [k3, k4, if_pos q, if_pos q]
      have d1 := hA.1 f hf.1 (by omega)
      have d2 := hA.1 g hg.1 (by omega)
      refine ⟨⟨σ (0, 4) f, ⟨d1.1, ?_⟩, ?_⟩, ⟨σ (0, 4) g, ⟨d2.1, ?_⟩, ?_⟩⟩
      · rw [k5, if_pos rfl, if_neg hfg]; omega
      · rw [k6 f hf.1, if_pos ⟨Or.inl rfl, rfl⟩, q]
      · rw [k5, if_neg (fun e => hfg e.symm), if_pos rfl]; omega
      · rw [k6 g hg.1, if_pos ⟨Or.inr rfl, rfl⟩, q]
    · rw [(t2 a a0 (by omega)).1, (t2 a a0 (by omega)).2]
      have hn := hN.2.2 a a0 (by omega)
      obtain ⟨⟨i, i0, i1⟩, j, j0, j1⟩ := hA.2.2.2 a a0 (by omega)
      have q1 := key _ hn.1.1 (by omega) i i0.1 i0.2
      have q2 := key _ hn.2.1.1 (by omega) j j0.1 j0.2
      exact ⟨⟨i, ⟨i0.1, q1.1⟩, q1.2.trans i1⟩, j, ⟨j0.1, q2.1⟩, q2.2.trans j1⟩
  · rw [e 2, e 3]
    by_cases q : a = σ (0, 1) 0
    · rw [q, z0.1, z0.2]; omega
    · exact hF a a0 (by omega)
  · unfold endsNo at q ⊢
    rw [e 8, e 9]
    exact q
  · rw [e 8, e 9, ← hV X]
    unfold net
    rw [k2, sm_succ hN2.1]
    have h1 : nf τ 0 X (σ (0, 1) 0) = 0 := by
      unfold nf
      rw [e 3, z0.2, ind_0, ind_0]
      rfl
    rw [h1, Int.add_zero]
    refine sm_cong fun a a0 a1 => ?_
    unfold nf
    rw [(t2 a a0 (by omega)).1, (t2 a a0 (by omega)).2, e 3]
  · unfold endsNo at q
    rw [e 8, e 9] at q
    rw [e 3]
    by_cases p : a = σ (0, 1) 0
    · rw [p]; exact z0.2
    · exact h0 q a a0 (by omega)
  · rw [e 10]; exact h10
  · rw [e 10] at q
    obtain ⟨g1, X, g2, g3, g4⟩ := hs q
    refine ⟨ey g1, X, ?_, ?_, fun a a0 a1 => ?_⟩
    · rw [e 8]; exact g2
    · rw [e 9]; exact g3
    · by_cases p : a = σ (0, 1) 0
      · have hr : ∀ v, rmF τ 0 a v = 0 := fun v => by
          unfold rmF
          rw [e 2, e 3, p, z0.1, z0.2]
          split <;> rfl
        exact ⟨fun _ w => by rw [hr] at w; exact absurd w (by decide), fun _ w => by rw [hr] at w; exact absurd w (by decide)⟩
      · have hr : ∀ v, rmF τ 0 a v = rmF σ 0 a v := fun v => by
          unfold rmF
          rw [(t2 a a0 (by omega)).1, e 2, e 3]
        rw [(t2 a a0 (by omega)).1, (t2 a a0 (by omega)).2, hr, hr]
        exact g4 a a0 (by omega)
  · rw [e 2, e 3]
    exact hz a (by omega) a1
/-- what a new arc leaves as it is -/
def aaP (σ τ : Mem) (f g c : Int) : Prop := (∀ h k : Nat, h < 6 → h ≠ 0 → h ≠ 1 → τ (h, k) = σ (h, k)) ∧ τ (0, 0) = σ (0, 0) ∧ τ (0, 1) 0 = σ (0, 1) 0 + 1 ∧ (∀ j, τ (0, 2) j = if j = σ (0, 1) 0 then f else σ (0, 2) j) ∧ (∀ j, τ (0, 3) j = if j = σ (0, 1) 0 then g else σ (0, 3) j) ∧ (∀ j, τ (6, 2) j = if j = σ (0, 1) 0 then c else σ (6, 2) j) ∧ τ (6, 8) = σ (6, 8) ∧ τ (6, 9) = σ (6, 9)
theorem aa_of {σ υ τ : Mem} {f g c : Int} (h : fnOk σ) (hc : 0 ≤ c ∧ c ≤ 1000000) (k : maP σ υ f g) (k2 : ccP υ τ 0 (σ (0, 1) 0) c) : fnOk τ ∧ aaP σ τ f g c := by
  obtain ⟨a0, a1, a2, a3, a4, -, -⟩ := k
  obtain ⟨b0, b1, b2⟩ := k2
  have o : ∀ h k : Nat, h < 6 → τ (h, k) = υ (h, k) := fun h k hh => b1.1 h k (Or.inl (by omega))
  have p : ∀ h k : Nat, h < 6 → h ≠ 0 → h ≠ 1 → τ (h, k) = σ (h, k) := fun h k hh h0 h1 => (o h k hh).trans (a0 h k h0 h1)
  have e2 : ∀ j, τ (6, 2) j = if j = σ (0, 1) 0 then c else σ (6, 2) j := fun j => by
    refine (b2 j).trans ?_
    rw [show υ (0 + 6, 2) = σ (6, 2) from a0 6 2 (by decide) (by decide)]
  have e0 : τ (0, 0) = σ (0, 0) := (o 0 0 (by decide)).trans a1
  refine ⟨⟨b0, fun j j0 j1 => ?_, ⟨?_, ?_, ?_⟩, ?_⟩, p, e0, ?_, fun j => ?_, fun j => ?_, e2, (b1.own 8).trans (a0 _ 8 (by decide) (by decide)), (b1.own 9).trans (a0 _ 9 (by decide) (by decide))⟩
  · rw [e2]
    split
    · exact hc
    · exact h.2.1 j j0 j1
  · rw [p 3 0 (by decide) (by decide) (by decide)]; exact h.2.2.1.1
  · rw [p 3 0 (by decide) (by decide) (by decide), p 3 1 (by decide) (by decide) (by decide), p 3 2 (by decide) (by decide) (by decide), e0]; exact h.2.2.1.2.1
  · have e' : ∀ v : Nat, τ (2, v) = σ (2, v) := fun v => p 2 v (by decide) (by decide) (by decide)
    simp only [p 3 0 (by decide) (by decide) (by decide), e']
    exact h.2.2.1.2.2
  · have := h.2.2.2
    unfold cuOk at this ⊢
    rw [p 3 4 (by decide) (by decide) (by decide)]
    exact this
  · rw [o 0 1 (by decide)]; exact a2
  · rw [o 0 2 (by decide)]; exact a3 j
  · rw [o 0 3 (by decide)]; exact a4 j

theorem dc_X4_makeNode : dcl yX4_makeNode 0 := ⟨by decide, by decide, by decide +kernel⟩
theorem dc_X4_makeArc : dcl yX4_makeArc 2 := ⟨by decide, by decide, by decide +kernel⟩
theorem dc_X4_attach : dcl yX4_attach 2 := ⟨by decide, by decide, by decide +kernel⟩




set_option maxHeartbeats 4000000 in
set_option maxRecDepth 100000 in
theorem c_X4_makeNode (l : Launch) (D : va_G) (cs : Nat → ClassId) (ad : Ix → Nat) (hap : Apart idsF ad) {σ : Mem} (hN : NetOk σ) : CI l D cs idsF ad yX4_makeNode cX4_makeNode 1 .int 0 [(.ref (ad (0, 0)))] σ (fun z τ => anP σ τ ∧ z = σ (0, 0) 0) := by
  refine CI.of RX4 hap idsF_nd (by decide) rfl (Nat.le_of_ble_eq_true rfl) ?_
  intro pg ev s0 mi av bl mt cd X K hr
  have hn := hN.1
  refine zr_aloadn X dX4_makeNode_0 rfl ?_
  refine zr_dup X dX4_makeNode_1 rfl ?_
  refine zr_get X K (C := RX4) (T := TX4) (N := 6) (k := 0) mF_0_0 rfl rfl ti_4 (by decide) rfl tw_33 rfl dX4_makeNode_2 ?_
  refine zr_iconst X dX4_makeNode_5 ?_
  refine zr_iadd X dX4_makeNode_6 ?_
  refine zr_put X K (q := (0, 0)) (C := RX4) (T := TX4) (ty0 := tyX4) (N := 6) (k := 0) mF_0_0 (fun _ => rfl) (by simp [mset]) rfl rfl ti_4 tyX4_ok nmX4 (by decide) rfl tw_33 rfl rfl rfl (Nat.le_of_ble_eq_true rfl) dX4_makeNode_7 ?_
  generalize hm_σ1 : mset σ (0, 0) 0 ((σ (0, 0) 0) + 1) = σ1
  refine zr_aloadn X dX4_makeNode_10 rfl ?_
  refine zr_get X K (C := RX4) (T := TX4) (N := 6) (k := 0) mF_0_0 rfl rfl ti_4 (by decide) rfl tw_33 rfl dX4_makeNode_11 ?_
  refine zr_iconst X dX4_makeNode_14 ?_
  refine zr_isub X dX4_makeNode_15 ?_
  refine zr_iret X hr dX4_makeNode_16 ?_
  exact ⟨⟨fun q hq => by rw [← hm_σ1]; exact mset_id hq, by rw [← hm_σ1, mset_same]⟩, by rw [← hm_σ1, mset_same]; omega⟩

set_option maxHeartbeats 4000000 in
set_option maxRecDepth 100000 in
theorem c_X6_addNode (l : Launch) (D : va_G) (cs : Nat → ClassId) (ad : Ix → Nat) (hap : Apart idsF ad) (hl : l.stackTraces = false) {σ : Mem} (h : fnOk σ) (sz : Nat) : CXI l D cs idsF ad yX6_addNode cX6_addNode 1 .int 7 8 48 sz [(.ref (ad (3, 7)))] σ (fun z τ => fnOk τ ∧ σ (0, 0) 0 < 24 ∧ anP σ τ ∧ z = σ (0, 0) 0) ((fun E => E = ISE ∧ σ (0, 0) 0 = 24)) := by
  refine CXI.of RX6 hl hap idsF_nd (by decide) rfl (Nat.le_of_ble_eq_true rfl) ?_
  intro pg ev s0 mi av bl mt cd X K T hr
  have hN := h.net
  have hn := hN.1
  have hm := hN.2.1
  refine zr_aloadn X dX6_addNode_0 rfl ?_
  refine zr_get X K (C := RX6) (T := TX6) (N := 5) (k := 0) mF_3_7 rfl rfl ti_6 (by decide) rfl tw_179 rfl dX6_addNode_1 ?_
  refine zr_getN X K (C := RX4) (T := TX4) (N := 6) (k := 0) mF_0_0 rfl rfl ti_4 (by decide) rfl tn_34 rfl dX6_addNode_4 ?_
  refine zr_bipush X dX6_addNode_7 rfl ?_
  refine zr_icmp_lt X 22 dX6_addNode_9 (by decide) ⟨by omega, by omega⟩ ⟨by omega, by omega⟩ (fun t_9 => ?_) (fun f_9 => ?_)
  · refine zr_aloadn X dX6_addNode_22 rfl ?_
    refine zr_get X K (C := RX6) (T := TX6) (N := 5) (k := 0) mF_3_7 rfl rfl ti_6 (by decide) rfl tw_179 rfl dX6_addNode_23 ?_
    refine zr_callNI X K (q := (RX4, TX4, 6)) (st := []) (c_X4_makeNode l D cs ad hap (σ := σ) hN) ⟨tn_517, tw_519, tp_31, tw_2, tw_520⟩ dc_X4_makeNode mF_0_0 rfl rfl rfl rfl rfl (Nat.le_of_ble_eq_true rfl) (by decide) dX6_addNode_26 ?_
    intro z τ hp
    obtain ⟨hp, hz⟩ := hp
    refine zr_xiret X ⟨by decide, by decide⟩ hr dX6_addNode_29 ?_
    exact ⟨an_ok h (by omega) hp, by omega, hp, hz⟩
  · exact zr_throw (E := ISE) (tx := "there are 24 nodes") X K T st_48 tw_390 tw_11 xat_ISE xgd_ISE (by decide +kernel) dX6_addNode_12 dX6_addNode_15 dX6_addNode_16 dX6_addNode_18 dX6_addNode_21 ⟨Nat.le_of_ble_eq_true rfl, Nat.le_of_ble_eq_true rfl, Nat.le_of_ble_eq_true rfl, Nat.le_of_ble_eq_true rfl⟩ ⟨by decide, by decide⟩ ⟨rfl, by omega⟩

set_option maxHeartbeats 4000000 in
set_option maxRecDepth 100000 in
theorem c_X4_attach (l : Launch) (D : va_G) (cs : Nat → ClassId) (ad : Ix → Nat) (hap : Apart idsF ad) {σ : Mem} {a v : Int} (hv : 0 ≤ v ∧ v < 24) (hd : 0 ≤ σ (0, 4) v ∧ σ (0, 4) v < 80) : CV l D cs idsF ad yX4_attach cX4_attach 3 0 [(.ref (ad (0, 0))), (jI a), (jI v)] σ (fun τ => atP σ τ v a) := by
  refine CV.of RX4 hap idsF_nd (by decide) rfl (Nat.le_of_ble_eq_true rfl) ?_
  intro pg ev s0 mi av bl mt cd X K hr
  refine zr_aloadn X dX4_attach_0 rfl ?_
  refine zr_get X K (C := RX4) (T := TX4) (N := 6) (k := 5) mF_0_0 rfl rfl ti_4 (by decide) rfl tw_52 rfl dX4_attach_1 ?_
  refine zr_iloadn X dX4_attach_4 rfl ?_
  refine zr_aald X K (n := 24) (f := fun v => ad (1, v)) mF_0_5 rfl (by decide) (by omega) dX4_attach_5 ?_
  refine zr_aloadn X dX4_attach_6 rfl ?_
  refine zr_get X K (C := RX4) (T := TX4) (N := 6) (k := 4) mF_0_0 rfl rfl ti_4 (by decide) rfl tw_50 rfl dX4_attach_7 ?_
  refine zr_iloadn X dX4_attach_10 rfl ?_
  refine zr_iald X K (n := 24) mF_0_4 rfl (by decide) (by omega) dX4_attach_11 ?_
  refine zr_iloadn X dX4_attach_12 rfl ?_
  refine zr_iast X K (n := 80) (mR1 (by omega)) (fun _ => rfl) rfl (by decide) (by omega) dX4_attach_13 ?_
  generalize hm_σ1 : mset σ (1, (v).toNat) (σ (0, 4) v) a = σ1
  have q1 : σ1 (0, 4) = σ (0, 4) := by rw [← hm_σ1]; exact mset_id (fun e => by cases e)
  have q2 := congrFun q1 v
  refine zr_aloadn X dX4_attach_14 rfl ?_
  refine zr_get X K (C := RX4) (T := TX4) (N := 6) (k := 4) mF_0_0 rfl rfl ti_4 (by decide) rfl tw_50 rfl dX4_attach_15 ?_
  refine zr_iloadn X dX4_attach_18 rfl ?_
  refine zr_dup2 X dX4_attach_19 rfl rfl ?_
  refine zr_iald X K (n := 24) mF_0_4 rfl (by decide) (by omega) dX4_attach_20 ?_
  refine zr_iconst X dX4_attach_21 ?_
  refine zr_iadd X dX4_attach_22 ?_
  refine zr_iast X K (n := 24) mF_0_4 (fun _ => rfl) rfl (by decide) (by omega) dX4_attach_23 ?_
  generalize hm_σ2 : mset σ1 (0, 4) v ((σ1 (0, 4) v) + 1) = σ2
  refine zr_vret X hr dX4_attach_24 ?_
  refine ⟨fun q hq1 hq2 => ?_, fun j => ?_, fun i => ?_⟩
  · rw [← hm_σ2, mset_id hq1, ← hm_σ1, mset_id hq2]
  · rw [← hm_σ2, mset_at, q1]
  · rw [← hm_σ2, mset_id (fun e => by cases e), ← hm_σ1, mset_at]

set_option maxHeartbeats 4000000 in
set_option maxRecDepth 100000 in
theorem c_X4_makeArc (l : Launch) (D : va_G) (cs : Nat → ClassId) (ad : Ix → Nat) (hap : Apart idsF ad) {σ : Mem} (hN : NetOk σ) (hA : AdjOk σ) (hm8 : σ (0, 1) 0 < 80) {f g : Int} (hf : 0 ≤ f ∧ f < σ (0, 0) 0) (hg : 0 ≤ g ∧ g < σ (0, 0) 0) (hfg : f ≠ g) : CI l D cs idsF ad yX4_makeArc cX4_makeArc 4 .int 1 [(.ref (ad (0, 0))), (jI f), (jI g)] σ (fun z τ => maP σ τ f g ∧ z = σ (0, 1) 0) := by
  refine CI.of RX4 hap idsF_nd (by decide) rfl (Nat.le_of_ble_eq_true rfl) ?_
  intro pg ev s0 mi av bl mt cd X K hr
  have hn := hN.1
  have hm := hN.2.1
  have df := hA.1 f hf.1 (by omega)
  have dg := hA.1 g hg.1 (by omega)
  refine zr_aloadn X dX4_makeArc_0 rfl ?_
  refine zr_get X K (C := RX4) (T := TX4) (N := 6) (k := 1) mF_0_0 rfl rfl ti_4 (by decide) rfl tw_38 rfl dX4_makeArc_1 ?_
  refine zr_istoren X dX4_makeArc_4 (by decide) rfl ?_
  refine zr_aloadn X dX4_makeArc_5 rfl ?_
  refine zr_dup X dX4_makeArc_6 rfl ?_
  refine zr_get X K (C := RX4) (T := TX4) (N := 6) (k := 1) mF_0_0 rfl rfl ti_4 (by decide) rfl tw_38 rfl dX4_makeArc_7 ?_
  refine zr_iconst X dX4_makeArc_10 ?_
  refine zr_iadd X dX4_makeArc_11 ?_
  refine zr_put X K (q := (0, 1)) (C := RX4) (T := TX4) (ty0 := tyX4) (N := 6) (k := 1) mF_0_0 (fun _ => rfl) (by simp [mset]) rfl rfl ti_4 tyX4_ok nmX4 (by decide) rfl tw_38 rfl rfl rfl (Nat.le_of_ble_eq_true rfl) dX4_makeArc_12 ?_
  generalize hm_σ1 : mset σ (0, 1) 0 ((σ (0, 1) 0) + 1) = σ1
  refine zr_aloadn X dX4_makeArc_15 rfl ?_
  refine zr_get X K (C := RX4) (T := TX4) (N := 6) (k := 2) mF_0_0 rfl rfl ti_4 (by decide) rfl tw_42 rfl dX4_makeArc_16 ?_
  refine zr_iloadn X dX4_makeArc_19 rfl ?_
  refine zr_iloadn X dX4_makeArc_20 rfl ?_
  refine zr_iast X K (n := 80) mF_0_2 (fun _ => rfl) rfl (by decide) (by omega) dX4_makeArc_21 ?_
  generalize hm_σ2 : mset σ1 (0, 2) (σ (0, 1) 0) f = σ2
  refine zr_aloadn X dX4_makeArc_22 rfl ?_
  refine zr_get X K (C := RX4) (T := TX4) (N := 6) (k := 3) mF_0_0 rfl rfl ti_4 (by decide) rfl tw_46 rfl dX4_makeArc_23 ?_
  refine zr_iloadn X dX4_makeArc_26 rfl ?_
  refine zr_iloadn X dX4_makeArc_27 rfl ?_
  refine zr_iast X K (n := 80) mF_0_3 (fun _ => rfl) rfl (by decide) (by omega) dX4_makeArc_28 ?_
  generalize hm_σ3 : mset σ2 (0, 3) (σ (0, 1) 0) g = σ3
  have q3 : σ3 (0, 4) = σ (0, 4) := by rw [← hm_σ3, mset_id (by decide), ← hm_σ2, mset_id (by decide), ← hm_σ1, mset_id (by decide)]
  refine zr_aloadn X dX4_makeArc_29 rfl ?_
  refine zr_iloadn X dX4_makeArc_30 rfl ?_
  refine zr_iloadn X dX4_makeArc_31 rfl ?_
  refine zr_callVV X K (q := (RX4, TX4, 6)) (st := []) (c_X4_attach l D cs ad hap (σ := σ3) (a := σ (0, 1) 0) (v := f) ⟨hf.1, by omega⟩ (by rw [q3]; omega)) ⟨tw_530, tw_532, tp_33, tw_2, tw_533⟩ dc_X4_attach mF_0_0 rfl rfl rfl rfl rfl (Nat.le_of_ble_eq_true rfl) (by decide) dX4_makeArc_32 ?_
  intro σ4 hat1
  have q4 : σ4 (0, 4) g = σ (0, 4) g := by rw [hat1.2.1, if_neg (fun e => hfg e.symm), q3]
  refine zr_aloadn X dX4_makeArc_35 rfl ?_
  refine zr_iloadn X dX4_makeArc_36 rfl ?_
  refine zr_iloadn X dX4_makeArc_37 rfl ?_
  refine zr_callVV X K (q := (RX4, TX4, 6)) (st := []) (c_X4_attach l D cs ad hap (σ := σ4) (a := σ (0, 1) 0) (v := g) ⟨hg.1, by omega⟩ (by rw [q4]; omega)) ⟨tw_530, tw_532, tp_33, tw_2, tw_533⟩ dc_X4_attach mF_0_0 rfl rfl rfl rfl rfl (Nat.le_of_ble_eq_true rfl) (by decide) dX4_makeArc_38 ?_
  intro τ hat2
  refine zr_iloadn X dX4_makeArc_41 rfl ?_
  refine zr_iret X hr dX4_makeArc_42 ?_
  exact ⟨ma_of hf.1 hg.1 hfg hm_σ1 hm_σ2 hm_σ3 hat1 hat2, rfl⟩

set_option maxHeartbeats 4000000 in
set_option maxRecDepth 100000 in
theorem c_X6_addArc (l : Launch) (D : va_G) (cs : Nat → ClassId) (ad : Ix → Nat) (hap : Apart idsF ad) (hl : l.stackTraces = false) {σ : Mem} (h : fnOk σ) {s t c : Int} (hs : rg s) (ht : rg t) (hc : rg c) (sz : Nat) : CXI l D cs idsF ad yX6_addArc cX6_addArc 5 .int 7 8 48 sz [(.ref (ad (3, 7))), (jI s), (jI t), (jI c)] σ (fun z τ => fnOk τ ∧ ((0 ≤ s ∧ s < σ (0, 0) 0) ∧ (0 ≤ t ∧ t < σ (0, 0) 0) ∧ s ≠ t ∧ (0 ≤ c ∧ c ≤ 1000000)) ∧ σ (0, 1) 0 < 80 ∧ aaP σ τ s t c ∧ z = σ (0, 1) 0) ((fun E => (E = IOB ∧ ¬ ((0 ≤ s ∧ s < σ (0, 0) 0) ∧ (0 ≤ t ∧ t < σ (0, 0) 0))) ∨ ((0 ≤ s ∧ s < σ (0, 0) 0) ∧ (0 ≤ t ∧ t < σ (0, 0) 0) ∧ E = IAE ∧ (s = t ∨ ¬ (0 ≤ c ∧ c ≤ 1000000))) ∨ (((0 ≤ s ∧ s < σ (0, 0) 0) ∧ (0 ≤ t ∧ t < σ (0, 0) 0) ∧ s ≠ t ∧ (0 ≤ c ∧ c ≤ 1000000)) ∧ E = ISE ∧ σ (0, 1) 0 = 80))) := by
  refine CXI.of RX6 hl hap idsF_nd (by decide) rfl (Nat.le_of_ble_eq_true rfl) ?_
  intro pg ev s0 mi av bl mt cd X K T hr
  have hN := h.net
  have hn := hN.1
  have hm := hN.2.1
  refine zr_aloadn X dX6_addArc_0 rfl ?_
  refine zr_iloadn X dX6_addArc_1 rfl ?_
  refine zr_xcallVV X K T (q := (RX6, TX6, 5)) (st := []) (fun sz => c_X6_requireNode l D cs ad hap hl (σ := σ) hN (v := s) hs sz) ⟨tw_350, tw_352, tp_14, tw_1, tw_353⟩ dc_X6_requireNode mF_3_7 rfl rfl rfl rfl rfl (Nat.le_of_ble_eq_true rfl) (by decide) dX6_addArc_2 ⟨by decide, by decide⟩ (fun E h => Or.inl ⟨h.1, fun q => h.2 q.1⟩) ?_
  intro τ_ hp_
  obtain ⟨hτ_, hS⟩ := hp_
  subst τ_
  refine zr_aloadn X dX6_addArc_5 rfl ?_
  refine zr_iloadn X dX6_addArc_6 rfl ?_
  refine zr_xcallVV X K T (q := (RX6, TX6, 5)) (st := []) (fun sz => c_X6_requireNode l D cs ad hap hl (σ := σ) hN (v := t) ht sz) ⟨tw_350, tw_352, tp_14, tw_1, tw_353⟩ dc_X6_requireNode mF_3_7 rfl rfl rfl rfl rfl (Nat.le_of_ble_eq_true rfl) (by decide) dX6_addArc_7 ⟨by decide, by decide⟩ (fun E h => Or.inl ⟨h.1, fun q => h.2 q.2⟩) ?_
  intro τ_ hp_
  obtain ⟨hτ_, hT⟩ := hp_
  subst τ_
  refine zr_iloadn X dX6_addArc_10 rfl ?_
  refine zr_iloadn X dX6_addArc_11 rfl ?_
  refine zr_xcallSV X K T (st := []) (fun sz => c_X6_requireDifferent l D cs ad hap hl (σ := σ) (v := s) (w := t) hs ht sz) ⟨tw_369, tw_370, tw_1, tw_371⟩ dc_X6_requireDifferent rfl rfl (Nat.le_of_ble_eq_true rfl) (by decide) dX6_addArc_12 ⟨by decide, by decide⟩ (fun E h => Or.inr (Or.inl ⟨hS, hT, h.1, Or.inl h.2⟩)) ?_
  intro τ_ hp_
  obtain ⟨hτ_, hD⟩ := hp_
  subst τ_
  refine zr_iloadn X dX6_addArc_15 rfl ?_
  refine zr_xcallSV X K T (st := []) (fun sz => c_X6_requireCapacity l D cs ad hap hl (σ := σ) (v := c) hc sz) ⟨tw_271, tw_272, tw_1, tw_273⟩ dc_X6_requireCapacity rfl rfl (Nat.le_of_ble_eq_true rfl) (by decide) dX6_addArc_16 ⟨by decide, by decide⟩ (fun E h => Or.inr (Or.inl ⟨hS, hT, h.1, Or.inr h.2⟩)) ?_
  intro τ_ hp_
  obtain ⟨hτ_, hC⟩ := hp_
  subst τ_
  refine zr_aloadn X dX6_addArc_19 rfl ?_
  refine zr_get X K (C := RX6) (T := TX6) (N := 5) (k := 0) mF_3_7 rfl rfl ti_6 (by decide) rfl tw_179 rfl dX6_addArc_20 ?_
  refine zr_getN X K (C := RX4) (T := TX4) (N := 6) (k := 1) mF_0_0 rfl rfl ti_4 (by decide) rfl tn_39 rfl dX6_addArc_23 ?_
  refine zr_bipush X dX6_addArc_26 rfl ?_
  refine zr_icmp_lt X 41 dX6_addArc_28 (by decide) ⟨by omega, by omega⟩ ⟨by omega, by omega⟩ (fun t_28 => ?_) (fun f_28 => ?_)
  · refine zr_aloadn X dX6_addArc_41 rfl ?_
    refine zr_get X K (C := RX6) (T := TX6) (N := 5) (k := 0) mF_3_7 rfl rfl ti_6 (by decide) rfl tw_179 rfl dX6_addArc_42 ?_
    refine zr_iloadn X dX6_addArc_45 rfl ?_
    refine zr_iloadn X dX6_addArc_46 rfl ?_
    refine zr_callNI X K (q := (RX4, TX4, 6)) (st := []) (c_X4_makeArc l D cs ad hap (σ := σ) hN h.1.1.2.1 (by omega) (f := s) (g := t) hS hT hD) ⟨tn_526, tw_528, tp_32, tw_2, tw_529⟩ dc_X4_makeArc mF_0_0 rfl rfl rfl rfl rfl (Nat.le_of_ble_eq_true rfl) (by decide) dX6_addArc_47 ?_
    intro z υ hp
    obtain ⟨hp, hz⟩ := hp
    subst z
    have hmf := ma_ok h.1 (by omega) hS hT hD hp
    have hm1 : υ (0, 1) 0 = σ (0, 1) 0 + 1 := hp.2.2.1
    refine zr_istore X dX6_addArc_50 (by decide) rfl ?_
    refine zr_aloadn X dX6_addArc_52 rfl ?_
    refine zr_get X K (C := RX6) (T := TX6) (N := 5) (k := 1) mF_3_7 rfl rfl ti_6 (by decide) rfl tw_180 rfl dX6_addArc_53 ?_
    refine zr_iload X dX6_addArc_56 rfl ?_
    refine zr_iloadn X dX6_addArc_58 rfl ?_
    refine zr_callNV X K (q := (RX3, TX3, 6)) (st := []) (c_X3_changeCapacity l D cs ad hap (b := 0) (by decide) (σ := υ) hmf (a := σ (0, 1) 0) (c := c) ⟨by omega, by omega⟩ ⟨hC.1, by omega⟩) ⟨tn_291, tw_293, tp_2, tw_3, tw_294⟩ dc_X3_changeCapacity mF_6_0 rfl rfl rfl rfl rfl (Nat.le_of_ble_eq_true rfl) (by decide) dX6_addArc_59 ?_
    intro τ hcc
    refine zr_iload X dX6_addArc_62 rfl ?_
    refine zr_xiret X ⟨by decide, by decide⟩ hr dX6_addArc_64 ?_
    have hk := aa_of h hC hp hcc
    exact ⟨hk.1, ⟨hS, hT, hD, hC⟩, by omega, hk.2, rfl⟩
  · exact zr_throw (E := ISE) (tx := "there are 80 arcs") X K T st_71 tw_390 tw_11 xat_ISE xgd_ISE (by decide +kernel) dX6_addArc_31 dX6_addArc_34 dX6_addArc_35 dX6_addArc_37 dX6_addArc_40 ⟨Nat.le_of_ble_eq_true rfl, Nat.le_of_ble_eq_true rfl, Nat.le_of_ble_eq_true rfl, Nat.le_of_ble_eq_true rfl⟩ ⟨by decide, by decide⟩ (Or.inr (Or.inr ⟨⟨hS, hT, hD, hC⟩, rfl, by omega⟩))
