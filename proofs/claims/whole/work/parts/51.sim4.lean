/-! BOTH SIDES AGREE: the reference's steps leave the class alone -/
def g4 (σ τ : Mem) : Prop := ∀ g k : Nat, g ≠ 4 → τ (g, k) = σ (g, k)
theorem g4.fn {σ τ : Mem} (e : g4 σ τ) (h : fnOk σ) : fnOk τ := by
  refine ⟨mf_cong (fun g k hg => e g k (by omega)) (fun k => e _ k (by omega)) h.1, ?_, ?_, ?_⟩
  · have := h.2.1
    unfold capOk at this ⊢
    rw [e 6 2 (by decide)]
    exact this
  · have := h.2.2.1
    unfold lvOk at this ⊢
    have e' : ∀ v : Nat, τ (2, v) = σ (2, v) := fun v => e 2 v (by decide)
    simp only [e 3 0 (by decide), e 3 1 (by decide), e 3 2 (by decide), e 0 0 (by decide), e']
    exact this
  · have := h.2.2.2
    unfold cuOk at this ⊢
    rw [e 3 4 (by decide)]
    exact this
theorem frL.g4 {l : List Ix} {σ τ : Mem} (f : frL l σ τ) (h : ∀ p ∈ l, p.1 = 4) : g4 σ τ := fun g k hg => f _ (fun q => hg (h _ q))
theorem fq.fr {σ τ : Mem} (f : fq σ τ) : frL [((4, 1) : Ix), (4, 16), (4, 17), (4, 18), (4, 19), (4, 20)] σ τ := f
theorem fq.g4 {σ τ : Mem} (f : fq σ τ) : g4 σ τ := f.fr.g4 (by decide)
/-- a question of the reference's leaves the agreement -/
theorem SIM.askM {σ τ : Mem} (h : SIM σ) (f : fq σ τ) : SIM τ := by
  have e := f.g4
  obtain ⟨hf, hN, hL, hC⟩ := h
  refine ⟨e.fn hf, ?_, ?_, ?_⟩
  · unfold simN at hN ⊢
    rw [e 0 0 (by decide), e 0 1 (by decide), e 0 2 (by decide), e 0 3 (by decide), e 6 2 (by decide), e 6 8 (by decide), e 6 9 (by decide), f (4, 2) (by decide), f (4, 3) (by decide), f (4, 4) (by decide), f (4, 5) (by decide), f (4, 6) (by decide), f (4, 7) (by decide), f (4, 8) (by decide)]
    exact hN
  · unfold simL at hL ⊢
    have e' : ∀ v : Nat, τ (2, v) = σ (2, v) := fun v => e 2 v (by decide)
    simp only [e 3 0 (by decide), e 3 1 (by decide), e 3 2 (by decide), e 0 1 (by decide), f (4, 9) (by decide), f (4, 10) (by decide), f (4, 11) (by decide), f (4, 12) (by decide), f (4, 13) (by decide), e']
    exact hL
  · unfold simC at hC ⊢
    rw [e 3 4 (by decide), e 3 5 (by decide), f (4, 15) (by decide), f (4, 14) (by decide)]
    exact hC
/-- a new arc on both sides -/
theorem SIM.arc {σ τ υ : Mem} (h : SIM σ) {s t c : Int} (hf : fnOk τ) (k : aaP σ τ s t c) (hm8 : σ (0, 1) 0 < 80) (e : g4 τ υ) (f : frL [((4, 1) : Ix), (4, 3), (4, 4), (4, 5), (4, 6)] τ υ) (r3 : υ (4, 3) 0 = τ (4, 3) 0 + 1) (r4 : ∀ j, υ (4, 4) j = if j = τ (4, 3) 0 then s else τ (4, 4) j) (r5 : ∀ j, υ (4, 5) j = if j = τ (4, 3) 0 then t else τ (4, 5) j) (r6 : ∀ j, υ (4, 6) j = if j = τ (4, 3) 0 then c else τ (4, 6) j) : SIM υ := by
  obtain ⟨-, hN, hL, hC⟩ := h
  obtain ⟨k0, k1, k2, k3, k4, k5, k6, k7⟩ := k
  have q4 : ∀ j : Nat, τ (4, j) = σ (4, j) := fun j => k0 4 j (by decide) (by decide) (by decide)
  have m0 := hN.2.1
  refine ⟨e.fn hf, ⟨?_, ?_, fun a a0 a1 => ?_, ?_, ?_⟩, ⟨?_, fun i i0 i1 => ?_⟩, ⟨?_, fun i i0 i1 => ?_⟩⟩
  · rw [e 0 0 (by decide), k1, f (4, 2) (by decide), q4]; exact hN.1
  · rw [e 0 1 (by decide), k2, r3, q4, m0]
  · rw [e 0 1 (by decide), k2] at a1
    rw [e 0 2 (by decide), e 0 3 (by decide), e 6 2 (by decide), k3, k4, k5, r4, r5, r6, q4 3, ← m0, q4, q4, q4]
    by_cases g : a = σ (0, 1) 0
    · rw [if_pos g, if_pos g, if_pos g, if_pos g, if_pos g, if_pos g]
      exact ⟨rfl, rfl, rfl⟩
    · rw [if_neg g, if_neg g, if_neg g, if_neg g, if_neg g, if_neg g]
      exact hN.2.2.1 a a0 (by omega)
  · rw [e 6 8 (by decide), k6, f (4, 7) (by decide), q4]; exact hN.2.2.2.1
  · rw [e 6 9 (by decide), k7, f (4, 8) (by decide), q4]; exact hN.2.2.2.2
  · rw [e 3 0 (by decide), k0 3 0 (by decide) (by decide) (by decide), f (4, 9) (by decide), q4]; exact hL.1
  · rw [e 3 0 (by decide), k0 3 0 (by decide) (by decide) (by decide)] at i1
    obtain ⟨p1, p2, p3, p4⟩ := hL.2 i i0 i1
    rw [e 0 1 (by decide), k2, e 3 1 (by decide), e 3 2 (by decide), k0 3 1 (by decide) (by decide) (by decide), k0 3 2 (by decide) (by decide) (by decide), f (4, 10) (by decide), f (4, 11) (by decide), f (4, 12) (by decide), f (4, 13) (by decide), q4, q4, q4, q4, e 2 _ (by decide), k0 2 _ (by decide) (by decide) (by decide)]
    exact ⟨⟨p1.1, by omega⟩, p2, p3, p4⟩
  · rw [e 3 4 (by decide), k0 3 4 (by decide) (by decide) (by decide), f (4, 15) (by decide), q4]; exact hC.1
  · rw [e 3 4 (by decide), k0 3 4 (by decide) (by decide) (by decide)] at i1
    rw [e 3 5 (by decide), k0 3 5 (by decide) (by decide) (by decide), f (4, 14) (by decide), q4]
    exact hC.2 i i0 i1
