/-! BOTH SIDES AGREE: changes -/
theorem SIM.node {σ τ υ : Mem} (h : SIM σ) (hf : fnOk τ) (k : anP σ τ) (f : frL [((4, 1) : Ix), (4, 2)] τ υ) (r : υ (4, 2) 0 = τ (4, 2) 0 + 1) : SIM υ := by
  have e := f.g4 (by decide)
  obtain ⟨-, hN, hL, hC⟩ := h
  obtain ⟨k1, k2⟩ := k
  refine ⟨e.fn hf, ?_, ?_, ?_⟩
  · unfold simN at hN ⊢
    rw [e 0 0 (by decide), k2, r, e 0 1 (by decide), e 0 2 (by decide), e 0 3 (by decide), e 6 2 (by decide), e 6 8 (by decide), e 6 9 (by decide), k1 (0, 1) (by decide), k1 (0, 2) (by decide), k1 (0, 3) (by decide), k1 (6, 2) (by decide), k1 (6, 8) (by decide), k1 (6, 9) (by decide), k1 (4, 2) (by decide), f (4, 3) (by decide), f (4, 4) (by decide), f (4, 5) (by decide), f (4, 6) (by decide), f (4, 7) (by decide), f (4, 8) (by decide), k1 (4, 3) (by decide), k1 (4, 4) (by decide), k1 (4, 5) (by decide), k1 (4, 6) (by decide), k1 (4, 7) (by decide), k1 (4, 8) (by decide)]
    exact ⟨by rw [hN.1], hN.2⟩
  · unfold simL at hL ⊢
    have e' : ∀ v : Nat, υ (2, v) = σ (2, v) := fun v => (e 2 v (by decide)).trans (k1 _ (fun q => by cases q))
    simp only [e 3 0 (by decide), e 3 1 (by decide), e 3 2 (by decide), e 0 1 (by decide), f (4, 9) (by decide), f (4, 10) (by decide), f (4, 11) (by decide), f (4, 12) (by decide), f (4, 13) (by decide), e', k1 (3, 0) (by decide), k1 (3, 1) (by decide), k1 (3, 2) (by decide), k1 (0, 1) (by decide), k1 (4, 9) (by decide), k1 (4, 10) (by decide), k1 (4, 11) (by decide), k1 (4, 12) (by decide), k1 (4, 13) (by decide)]
    exact hL
  · unfold simC at hC ⊢
    rw [e 3 4 (by decide), e 3 5 (by decide), f (4, 15) (by decide), f (4, 14) (by decide), k1 (3, 4) (by decide), k1 (3, 5) (by decide), k1 (4, 15) (by decide), k1 (4, 14) (by decide)]
    exact hC
/-- other capacities on both sides (setCapacity, scale) -/
theorem SIM.caps {σ τ υ : Mem} (h : SIM σ) {c : Int → Int} (hf : fnOk τ) (k : keepC σ τ c) (f : frL [((4, 1) : Ix), (4, 6)] τ υ) (r : ∀ a, 0 ≤ a → a < σ (0, 1) 0 → υ (4, 6) a = c a) : SIM υ := by
  have e := f.g4 (by decide)
  obtain ⟨-, hN, hL, hC⟩ := h
  obtain ⟨k1, k2, k3, k4⟩ := k
  refine ⟨e.fn hf, ⟨?_, ?_, fun a a0 a1 => ?_, ?_, ?_⟩, ?_, ?_⟩
  · rw [e 0 0 (by decide), k1 0 0 (by decide), f (4, 2) (by decide), k1 4 2 (by decide)]; exact hN.1
  · rw [e 0 1 (by decide), k1 0 1 (by decide), f (4, 3) (by decide), k1 4 3 (by decide)]; exact hN.2.1
  · rw [e 0 1 (by decide), k1 0 1 (by decide)] at a1
    obtain ⟨e1, e2, e3⟩ := hN.2.2.1 a a0 a1
    rw [e 0 2 (by decide), k1 0 2 (by decide), e 0 3 (by decide), k1 0 3 (by decide), e 6 2 (by decide), k2, f (4, 4) (by decide), k1 4 4 (by decide), f (4, 5) (by decide), k1 4 5 (by decide), r a a0 a1]
    exact ⟨e1, e2, rfl⟩
  · rw [e 6 8 (by decide), k3, f (4, 7) (by decide), k1 4 7 (by decide)]; exact hN.2.2.2.1
  · rw [e 6 9 (by decide), k4, f (4, 8) (by decide), k1 4 8 (by decide)]; exact hN.2.2.2.2
  · unfold simL at hL ⊢
    have e' : ∀ v : Nat, υ (2, v) = σ (2, v) := fun v => (e 2 v (by decide)).trans (k1 2 v (by decide))
    simp only [e 3 0 (by decide), e 3 1 (by decide), e 3 2 (by decide), e 0 1 (by decide), f (4, 9) (by decide), f (4, 10) (by decide), f (4, 11) (by decide), f (4, 12) (by decide), f (4, 13) (by decide), e', k1 3 0 (by decide), k1 3 1 (by decide), k1 3 2 (by decide), k1 0 1 (by decide), k1 4 9 (by decide), k1 4 10 (by decide), k1 4 11 (by decide), k1 4 12 (by decide), k1 4 13 (by decide)]
    exact hL
  · unfold simC at hC ⊢
    rw [e 3 4 (by decide), e 3 5 (by decide), f (4, 15) (by decide), f (4, 14) (by decide), k1 3 4 (by decide), k1 3 5 (by decide), k1 4 15 (by decide), k1 4 14 (by decide)]
    exact hC
/-- other ends on both sides -/
theorem SIM.ends {σ τ υ : Mem} (h : SIM σ) {s t : Int} (hf : fnOk τ) (k : keepE σ τ s t) (f : frL [((4, 1) : Ix), (4, 7), (4, 8)] τ υ) (r : υ (4, 7) 0 = s ∧ υ (4, 8) 0 = t) : SIM υ := by
  have e := f.g4 (by decide)
  obtain ⟨-, hN, hL, hC⟩ := h
  obtain ⟨k1, k2, k3, k4⟩ := k
  refine ⟨e.fn hf, ⟨?_, ?_, fun a a0 a1 => ?_, ?_, ?_⟩, ?_, ?_⟩
  · rw [e 0 0 (by decide), k1 0 0 (by decide), f (4, 2) (by decide), k1 4 2 (by decide)]; exact hN.1
  · rw [e 0 1 (by decide), k1 0 1 (by decide), f (4, 3) (by decide), k1 4 3 (by decide)]; exact hN.2.1
  · rw [e 0 1 (by decide), k1 0 1 (by decide)] at a1
    rw [e 0 2 (by decide), k1 0 2 (by decide), e 0 3 (by decide), k1 0 3 (by decide), e 6 2 (by decide), k2, f (4, 4) (by decide), k1 4 4 (by decide), f (4, 5) (by decide), k1 4 5 (by decide), f (4, 6) (by decide), k1 4 6 (by decide)]
    exact hN.2.2.1 a a0 a1
  · rw [e 6 8 (by decide), k3, r.1]
  · rw [e 6 9 (by decide), k4, r.2]
  · unfold simL at hL ⊢
    have e' : ∀ v : Nat, υ (2, v) = σ (2, v) := fun v => (e 2 v (by decide)).trans (k1 2 v (by decide))
    simp only [e 3 0 (by decide), e 3 1 (by decide), e 3 2 (by decide), e 0 1 (by decide), f (4, 9) (by decide), f (4, 10) (by decide), f (4, 11) (by decide), f (4, 12) (by decide), f (4, 13) (by decide), e', k1 3 0 (by decide), k1 3 1 (by decide), k1 3 2 (by decide), k1 0 1 (by decide), k1 4 9 (by decide), k1 4 10 (by decide), k1 4 11 (by decide), k1 4 12 (by decide), k1 4 13 (by decide)]
    exact hL
  · unfold simC at hC ⊢
    rw [e 3 4 (by decide), e 3 5 (by decide), f (4, 15) (by decide), f (4, 14) (by decide), k1 3 4 (by decide), k1 3 5 (by decide), k1 4 15 (by decide), k1 4 14 (by decide)]
    exact hC
