/-! BOTH SIDES AGREE: the list of cuts -/
theorem sim_K {σ : Mem} (h : simN σ) (hm : 0 ≤ σ (0, 1) 0) : mcS σ = mcM σ := nx_cong fun _ => sim_mc h hm
theorem sim_fc {σ : Mem} (h : simN σ) (hm : 0 ≤ σ (0, 1) 0) {f g : Int → Int} {x z : Int} (k : fcS (mcS σ) (σ (0, 0) 0) (smP σ) f x) (r : fcS (mcM σ) (σ (4, 2) 0) (smM σ) g z) : x = z ∧ ∀ i, 0 ≤ i → i < x → f i = g i := by
  rw [sim_K h hm, h.1] at k
  have k' : fcS (mcM σ) (σ (4, 2) 0) (smM σ) f x := ⟨k.1, (sim_sm h hm).mp k.2.1, k.2.2⟩
  exact fc_one (fun _ _ a b => sm_one a b) k' r
