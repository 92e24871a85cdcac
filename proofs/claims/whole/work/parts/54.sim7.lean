/-! BOTH SIDES AGREE: a level is closed; the list of cuts -/
theorem SIM.pop {σ τ υ : Mem} (h : SIM σ) (hf : fnOk τ) (hc : 0 < σ (3, 0) 0) (k : popP σ τ) (p : mPop τ υ (τ (4, 3) 0)) : SIM υ := by
  obtain ⟨hf0, hN, hL, hC⟩ := h
  obtain ⟨k1, k2, k3, k4, k5⟩ := k
  obtain ⟨p1, p2, p3, p4, p5, p6⟩ := p
  have hl := hf0.2.2.1.1
  have hm := hf0.net.2.1
  have t : ∀ g j : Nat, g < 6 → g ≠ 3 → τ (g, j) = σ (g, j) := fun g j h6 h3 => k1 g j h6 (fun q => h3 (congrArg Prod.fst q))
  have e : g4 τ υ := p1.g4 (by decide)
  have w9 : τ (4, 9) 0 = σ (3, 0) 0 := by rw [t 4 9 (by decide) (by decide)]; exact hL.1.symm
  have w3 : τ (4, 3) 0 = σ (0, 1) 0 := by rw [t 4 3 (by decide) (by decide)]; exact hN.2.1.symm
  obtain ⟨l1, l2, l3, l4⟩ := hL.2 (σ (3, 0) 0 - 1) (by omega) (by omega)
  refine ⟨e.fn hf, ⟨?_, ?_, fun a a0 a1 => ?_, ?_, ?_⟩, ⟨?_, fun i i0 i1 => ?_⟩, ?_⟩
  · rw [e 0 0 (by decide), t 0 0 (by decide) (by decide), p1 (4, 2) (by decide), t 4 2 (by decide) (by decide)]; exact hN.1
  · rw [e 0 1 (by decide), t 0 1 (by decide) (by decide), p1 (4, 3) (by decide), w3]
  · rw [e 0 1 (by decide), t 0 1 (by decide) (by decide)] at a1
    obtain ⟨e1, e2, e3⟩ := hN.2.2.1 a a0 a1
    rw [e 0 2 (by decide), t 0 2 (by decide) (by decide), e 0 3 (by decide), t 0 3 (by decide) (by decide), p1 (4, 4) (by decide), t 4 4 (by decide) (by decide), p1 (4, 5) (by decide), t 4 5 (by decide) (by decide), e 6 2 (by decide), k3, if_pos ⟨a0, a1⟩, p6, w9, if_pos ⟨a0, by omega⟩, t 4 10 (by decide) (by decide), t 4 11 (by decide) (by decide)]
    exact ⟨e1, e2, l4 a a0 (by omega)⟩
  · rw [e 6 8 (by decide), k4, p4, w9, t 4 12 (by decide) (by decide)]; exact l2
  · rw [e 6 9 (by decide), k5, p5, w9, t 4 13 (by decide) (by decide)]; exact l3
  · rw [e 3 0 (by decide), k2, p3, w9]
  · rw [e 3 0 (by decide), k2] at i1
    rw [e 0 1 (by decide), t 0 1 (by decide) (by decide), e 3 1 (by decide), e 3 2 (by decide), k1 3 1 (by decide) (by decide), k1 3 2 (by decide) (by decide), p1 (4, 10) (by decide), p1 (4, 11) (by decide), p1 (4, 12) (by decide), p1 (4, 13) (by decide), t 4 10 (by decide) (by decide), t 4 11 (by decide) (by decide), t 4 12 (by decide) (by decide), t 4 13 (by decide) (by decide), e 2 _ (by decide), t 2 _ (by decide) (by decide)]
    exact hL.2 i i0 (by omega)
  · unfold simC at hC ⊢
    rw [e 3 4 (by decide), e 3 5 (by decide), k1 3 4 (by decide) (by decide), k1 3 5 (by decide) (by decide), p1 (4, 15) (by decide), p1 (4, 14) (by decide), t 4 15 (by decide) (by decide), t 4 14 (by decide) (by decide)]
    exact hC
