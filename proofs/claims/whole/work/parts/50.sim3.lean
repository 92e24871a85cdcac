/-! BOTH SIDES AGREE: the whole state -/
theorem sim_hr {σ : Mem} (hf : fnOk σ) (h : simN σ) (hE : endsYes σ 0) {a x z : Int} (ha : 0 ≤ a ∧ a < σ (0, 1) 0) (k : ((σ (0, 2) a = σ (6, 8) 0 ∧ σ (0, 3) a = σ (6, 9) 0) ∧ x = -1) ∨ (¬ (σ (0, 2) a = σ (6, 8) 0 ∧ σ (0, 3) a = σ (6, 9) 0) ∧ ∃ F F1, mnS σ (σ (6, 2)) (σ (6, 8) 0) (σ (6, 9) 0) F ∧ mnS σ (updC (σ (6, 2)) a 100000000) (σ (6, 8) 0) (σ (6, 9) 0) F1 ∧ x = F1 - F)) (r : hrM σ a z) : x = z := by
  have hm := hf.net.2.1
  obtain ⟨e1, e2, e3⟩ := h.2.2.1 a ha.1 ha.2
  have hst := (ends_of hE).2.2
  rcases k with ⟨k1, k2⟩ | ⟨k1, F, F1, k2, k3, k4⟩ <;> rcases r with ⟨r1, r2⟩ | ⟨r1, G, G1, r2, r3, r4⟩
  · rw [k2, r2]
  · rw [e1, e2, h.2.2.2.1, h.2.2.2.2] at k1; exact absurd k1 r1
  · rw [← e1, ← e2, ← h.2.2.2.1, ← h.2.2.2.2] at r1; exact absurd r1 k1
  · have q := sim_mx h hm.1 k2 r2
    have r3' : mnS σ (updC (σ (6, 2)) a 200000000) (σ (6, 8) 0) (σ (6, 9) 0) G1 := by
      unfold mnM at r3
      rw [← h.2.1, ← h.2.2.2.1, ← h.2.2.2.2] at r3
      refine isMn_cong (fun j j0 j1 => ⟨(h.2.2.1 j j0 (by omega)).1, (h.2.2.1 j j0 (by omega)).2.1, ?_⟩) r3
      unfold updC
      rw [(h.2.2.1 j j0 (by omega)).2.2]
    have := mn_more hst k1 (fun j j0 j1 => (hf.2.1 j j0 (by omega)).2) (by omega) (by decide) (by decide) (fun j j0 j1 => (hf.2.1 j j0 (by omega)).1) k3 r3' ⟨ha.1, by omega⟩
    rw [k4, r4, q, this]
def simL (σ : Mem) : Prop := σ (3, 0) 0 = σ (4, 9) 0 ∧ ∀ i, 0 ≤ i → i < σ (3, 0) 0 → (0 ≤ σ (4, 10) i ∧ σ (4, 10) i ≤ σ (0, 1) 0) ∧ σ (3, 1) i = σ (4, 12) i ∧ σ (3, 2) i = σ (4, 13) i ∧ ∀ a, 0 ≤ a → a < 80 → σ (2, i.toNat) a = if a < σ (4, 10) i then σ (4, 11) (80 * i + a) else 0
def simC (σ : Mem) : Prop := σ (3, 4) 0 = σ (4, 15) 0 ∧ ∀ i, 0 ≤ i → i < σ (3, 4) 0 → σ (3, 5) i = σ (4, 14) i
def SIM (σ : Mem) : Prop := fnOk σ ∧ simN σ ∧ simL σ ∧ simC σ
theorem SIM.ok {σ : Mem} (h : SIM σ) : mOk σ := by
  obtain ⟨hf, hN, hL, hC⟩ := h
  have hn := hf.net.1
  have hm := hf.net.2.1
  have hl := hf.2.2.1
  have hc := hf.2.2.2
  unfold cuOk at hc
  refine ⟨⟨by rw [← hN.1]; exact hn, by rw [← hN.2.1]; exact hm, fun a a0 a1 => ?_⟩, fun a a0 a1 => ?_, hf.ends.imp (sim_en hN).mp (sim_ey hN).mp, by rw [← hL.1]; exact hl.1, by rw [← hC.1]; exact hc, fun i i0 i1 => ?_⟩
  · rw [← hN.2.1] at a1
    obtain ⟨e1, e2, e3⟩ := hN.2.2.1 a a0 a1
    rw [← e1, ← e2, ← hN.1]
    exact hf.net.2.2 a a0 a1
  · rw [← hN.2.1] at a1
    obtain ⟨e1, e2, e3⟩ := hN.2.2.1 a a0 a1
    rw [← e3]
    exact hf.2.1 a a0 (by omega)
  · rw [← hL.1] at i1
    obtain ⟨q1, q2, q3, q4⟩ := hL.2 i i0 i1
    have he := hl.2.1 i i0 i1
    refine ⟨by rw [← hN.2.1]; exact q1, by omega, by omega, fun a a0 a1 => ?_⟩
    have := q4 a a0 (by omega)
    rw [if_pos a1] at this
    rw [← this]
    exact hl.2.2 i i0 i1 a a0 (by omega)
/-- a question of the class's leaves the agreement -/
theorem SIM.ask {σ τ : Mem} (h : SIM σ) (k : keepQ σ τ) (hf : fnOk τ) : SIM τ := by
  obtain ⟨-, hN, hL, hC⟩ := h
  refine ⟨hf, ?_, ?_, ?_⟩
  · unfold simN at hN ⊢
    rw [k.1 0 0 (by decide), k.1 0 1 (by decide), k.1 0 2 (by decide), k.1 0 3 (by decide), k.2.1, k.2.2.1, k.2.2.2, k.1 4 2 (by decide), k.1 4 3 (by decide), k.1 4 4 (by decide), k.1 4 5 (by decide), k.1 4 6 (by decide), k.1 4 7 (by decide), k.1 4 8 (by decide)]
    exact hN
  · unfold simL at hL ⊢
    have e : ∀ v : Nat, τ (2, v) = σ (2, v) := fun v => k.1 2 v (by decide)
    simp only [k.1 3 0 (by decide), k.1 3 1 (by decide), k.1 3 2 (by decide), k.1 0 1 (by decide), k.1 4 9 (by decide), k.1 4 10 (by decide), k.1 4 11 (by decide), k.1 4 12 (by decide), k.1 4 13 (by decide), e]
    exact hL
  · unfold simC at hC ⊢
    rw [k.1 3 4 (by decide), k.1 3 5 (by decide), k.1 4 15 (by decide), k.1 4 14 (by decide)]
    exact hC
