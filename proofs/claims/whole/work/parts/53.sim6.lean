/-! BOTH SIDES AGREE: a new level -/
theorem SIM.push {σ τ ω υ : Mem} (h : SIM σ) (hf : fnOk τ) (hc : σ (3, 0) 0 < 8) (k : pushP σ τ) (p : mPush τ ω (τ (4, 3) 0)) (e9 : υ = mset ω (4, 9) 0 (τ (4, 9) 0 + 1)) : SIM υ := by
  obtain ⟨hf0, hN, hL, hC⟩ := h
  obtain ⟨k1, k2, k3, k4, k5⟩ := k
  obtain ⟨p1, p2, p3, p4, p5, p6⟩ := p
  have hl := hf0.2.2.1.1
  have hm := hf0.net.2.1
  have q9 : ∀ x : Ix, x ≠ (4, 9) → υ x = ω x := fun x hx => by rw [e9, mset_id hx]
  have t : ∀ g j : Nat, g ≠ 2 → g ≠ 3 → τ (g, j) = σ (g, j) := fun g j h2 h3 => k1 _ (fun q => by
    simp only [List.mem_cons, List.not_mem_nil, or_false] at q
    rcases q with q | q | q | q
    · exact h3 (congrArg Prod.fst q)
    · exact h3 (congrArg Prod.fst q)
    · exact h3 (congrArg Prod.fst q)
    · exact h2 (congrArg Prod.fst q))
  have e : g4 τ υ := fun g j hg => by rw [q9 _ (fun q => hg (congrArg Prod.fst q)), p1 _ (fun q => by
    simp only [List.mem_cons, List.not_mem_nil, or_false] at q
    rcases q with q | q | q | q | q <;> exact hg (congrArg Prod.fst q))]
  have f : ∀ j : Nat, j ≠ 1 → j ≠ 9 → j ≠ 10 → j ≠ 11 → j ≠ 12 → j ≠ 13 → υ (4, j) = σ (4, j) := fun j a b c d x y => by
    rw [q9 _ (fun q => b (congrArg Prod.snd q)), p1 _ (fun q => by
      simp only [List.mem_cons, List.not_mem_nil, or_false] at q
      rcases q with q | q | q | q | q
      · exact a (congrArg Prod.snd q)
      · exact c (congrArg Prod.snd q)
      · exact d (congrArg Prod.snd q)
      · exact x (congrArg Prod.snd q)
      · exact y (congrArg Prod.snd q)), t 4 j (by decide) (by decide)]
  have w9 : τ (4, 9) 0 = σ (3, 0) 0 := by rw [t 4 9 (by decide) (by decide)]; exact hL.1.symm
  have w3 : τ (4, 3) 0 = σ (0, 1) 0 := by rw [t 4 3 (by decide) (by decide)]; exact hN.2.1.symm
  refine ⟨e.fn hf, ?_, ⟨?_, fun i i0 i1 => ?_⟩, ?_⟩
  · unfold simN at hN ⊢
    rw [e 0 0 (by decide), e 0 1 (by decide), e 0 2 (by decide), e 0 3 (by decide), e 6 2 (by decide), e 6 8 (by decide), e 6 9 (by decide), t 0 0 (by decide) (by decide), t 0 1 (by decide) (by decide), t 0 2 (by decide) (by decide), t 0 3 (by decide) (by decide), t 6 2 (by decide) (by decide), t 6 8 (by decide) (by decide), t 6 9 (by decide) (by decide), f 2 (by decide) (by decide) (by decide) (by decide) (by decide) (by decide), f 3 (by decide) (by decide) (by decide) (by decide) (by decide) (by decide), f 4 (by decide) (by decide) (by decide) (by decide) (by decide) (by decide), f 5 (by decide) (by decide) (by decide) (by decide) (by decide) (by decide), f 6 (by decide) (by decide) (by decide) (by decide) (by decide) (by decide), f 7 (by decide) (by decide) (by decide) (by decide) (by decide) (by decide), f 8 (by decide) (by decide) (by decide) (by decide) (by decide) (by decide)]
    exact hN
  · rw [e 3 0 (by decide), k2, e9, mset_same, w9]
  · rw [e 3 0 (by decide), k2] at i1
    rw [e 0 1 (by decide), t 0 1 (by decide) (by decide), e 3 1 (by decide), e 3 2 (by decide), k3, k4, q9 (4, 10) (by decide), q9 (4, 11) (by decide), q9 (4, 12) (by decide), q9 (4, 13) (by decide), p3, p4, p5, w9, w3, t 4 7 (by decide) (by decide), t 4 8 (by decide) (by decide)]
    by_cases g : i = σ (3, 0) 0
    · rw [if_pos g, if_pos g, if_pos g, if_pos g, if_pos g]
      refine ⟨⟨hm.1, Int.le_refl _⟩, hN.2.2.2.1, hN.2.2.2.2, fun a a0 a1 => ?_⟩
      rw [e 2 _ (by decide), g, k5 a a0 a1]
      by_cases q : a < σ (0, 1) 0
      · rw [if_pos q, p6, w9, w3, if_pos (by omega), t 4 6 (by decide) (by decide), show 80 * σ (3, 0) 0 + a - 80 * σ (3, 0) 0 = a by omega]
        exact (hN.2.2.1 a a0 q).2.2
      · rw [if_neg q]
        exact (hf0.1.2.2.2.2.2.2 a (by omega) a1).1
    · rw [if_neg g, if_neg g, if_neg g, if_neg g, if_neg g]
      obtain ⟨r1, r2, r3, r4⟩ := hL.2 i i0 (by omega)
      rw [t 4 10 (by decide) (by decide), t 4 12 (by decide) (by decide), t 4 13 (by decide) (by decide)]
      refine ⟨r1, r2, r3, fun a a0 a1 => ?_⟩
      have hrow : τ (2, i.toNat) = σ (2, i.toNat) := k1 _ (fun q => by
        simp only [List.mem_cons, List.not_mem_nil, or_false] at q
        rcases q with q | q | q | q
        · cases q
        · cases q
        · cases q
        · have : i.toNat = (σ (3, 0) 0).toNat := congrArg Prod.snd q
          omega)
      rw [e 2 _ (by decide), hrow, r4 a a0 a1]
      by_cases q : a < σ (4, 10) i
      · rw [if_pos q, if_pos q, p6, w9, if_neg (by omega), t 4 11 (by decide) (by decide)]
      · rw [if_neg q, if_neg q]
  · unfold simC at hC ⊢
    have n3 : ∀ j : Nat, j ≠ 0 → j ≠ 1 → j ≠ 2 → τ (3, j) = σ (3, j) := fun j a b c => k1 _ (fun q => by
      simp only [List.mem_cons, List.not_mem_nil, or_false] at q
      rcases q with q | q | q | q
      · exact a (congrArg Prod.snd q)
      · exact b (congrArg Prod.snd q)
      · exact c (congrArg Prod.snd q)
      · cases q)
    rw [e 3 4 (by decide), e 3 5 (by decide), n3 4 (by decide) (by decide) (by decide), n3 5 (by decide) (by decide) (by decide), f 15 (by decide) (by decide) (by decide) (by decide) (by decide) (by decide), f 14 (by decide) (by decide) (by decide) (by decide) (by decide) (by decide)]
    exact hC
