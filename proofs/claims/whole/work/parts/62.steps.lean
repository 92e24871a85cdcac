/-! THE STEPS: both sides answer alike, and agree again -/
theorem m5_ne {σ : Mem} {i : Nat} {x : Int} {g k : Nat} (hg : g ≠ 5) : mset σ (5, i) 0 x (g, k) = σ (g, k) := mset_id fun e => hg (congrArg Prod.fst e)
theorem m5_eq {σ τ : Mem} {i : Nat} {x : Int} {q : Ix} (h : τ q = σ q) : mset τ (5, i) 0 x q = mset σ (5, i) 0 x q := by
  by_cases e : q = (5, i)
  · subst e
    funext j
    rw [mset_at, mset_at, h]
  · rw [mset_id e, mset_id e, h]
theorem SIM.out {σ τ : Mem} (h : SIM σ) (e : ∀ g k : Nat, g ≠ 5 → τ (g, k) = σ (g, k)) : SIM τ := by
  obtain ⟨hf, hN, hL, hC⟩ := h
  have e2 : ∀ v : Nat, τ (2, v) = σ (2, v) := fun v => e 2 v (by decide)
  refine ⟨⟨?_, ?_, ?_, ?_⟩, ?_, ?_, ?_⟩
  · exact mf_cong (fun g k hg => e g k (by omega)) (fun k => e _ k (by omega)) hf.1
  · have := hf.2.1
    unfold capOk at this ⊢
    rw [e 6 2 (by decide)]
    exact this
  · have := hf.2.2.1
    unfold lvOk at this ⊢
    simp only [e 3 0 (by decide), e 3 1 (by decide), e 3 2 (by decide), e 0 0 (by decide), e2]
    exact this
  · have := hf.2.2.2
    unfold cuOk at this ⊢
    rw [e 3 4 (by decide)]
    exact this
  · unfold simN at hN ⊢
    simp only [e 0 0 (by decide), e 0 1 (by decide), e 0 2 (by decide), e 0 3 (by decide), e 6 2 (by decide), e 6 8 (by decide), e 6 9 (by decide), e 4 2 (by decide), e 4 3 (by decide), e 4 4 (by decide), e 4 5 (by decide), e 4 6 (by decide), e 4 7 (by decide), e 4 8 (by decide)]
    exact hN
  · unfold simL at hL ⊢
    simp only [e 3 0 (by decide), e 3 1 (by decide), e 3 2 (by decide), e 0 1 (by decide), e 4 9 (by decide), e 4 10 (by decide), e 4 11 (by decide), e 4 12 (by decide), e 4 13 (by decide), e2]
    exact hL
  · unfold simC at hC ⊢
    simp only [e 3 4 (by decide), e 3 5 (by decide), e 4 15 (by decide), e 4 14 (by decide)]
    exact hC
theorem SIM.m5 {σ : Mem} (h : SIM σ) (i : Nat) (x : Int) : SIM (mset σ (5, i) 0 x) := h.out fun _ _ hg => m5_ne hg
theorem fnOk.m5 {σ : Mem} (h : fnOk σ) (i : Nat) (x : Int) : fnOk (mset σ (5, i) 0 x) := ⟨mf_cong (fun g k hg => m5_ne (by omega)) (fun k => m5_ne (by omega)) h.1, by
    have := h.2.1
    unfold capOk at this ⊢
    rw [m5_ne (by decide)]
    exact this, by
    have := h.2.2.1
    have e2 : ∀ v : Nat, mset σ (5, i) 0 x (2, v) = σ (2, v) := fun v => m5_ne (by decide)
    unfold lvOk at this ⊢
    simp only [m5_ne (g := 3) (k := 0) (by decide), m5_ne (g := 3) (k := 1) (by decide), m5_ne (g := 3) (k := 2) (by decide), m5_ne (g := 0) (k := 0) (by decide), e2]
    exact this, by
    have := h.2.2.2
    unfold cuOk at this ⊢
    rw [m5_ne (by decide)]
    exact this⟩
def OKs (υ : Mem) (k b : Int) : Prop := SIM υ ∧ υ (4, 1) 0 = k ∧ (k = 0 → υ (5, 0) 0 = (iI b).toInt) ∧ (0 ≤ k ∧ k ≤ 3)
/-- both refused -/
theorem st_no {σ υ : Mem} {k b : Int} (S : SIM σ) (f : fq σ υ) (ht : υ (4, 1) 0 = k) (hk : 1 ≤ k ∧ k ≤ 3) : OKs υ k b := ⟨S.askM f, ht, fun h => by omega, by omega⟩
/-- both answered, and changed nothing that counts -/
theorem st_ok {τ' υ : Mem} {w b : Int} (S : SIM τ') (f : fq (mset τ' (5, 0) 0 (iI w).toInt) υ) (ht : υ (4, 1) 0 = 0) (hw : w = b) : OKs υ 0 b := ⟨(S.m5 0 _).askM f, ht, fun _ => by rw [f (5, 0) (by decide), mset_same, hw], by decide⟩
/-- both answered, and changed -/
theorem st_ch {τ' υ : Mem} {w b : Int} (S : SIM υ) (f : g4 (mset τ' (5, 0) 0 (iI w).toInt) υ) (ht : υ (4, 1) 0 = 0) (hw : w = b) : OKs υ 0 b := ⟨S, ht, fun _ => by rw [f 5 0 (by decide), mset_same, hw], by decide⟩
theorem keepQ.e4 {σ τ' : Mem} {x : Int} (k : keepQ σ τ') (j : Nat) : mset τ' (5, 0) 0 x (4, j) = σ (4, j) := by rw [m5_ne (by decide), k.1 4 j (by decide)]
theorem keepQ.e41 {σ τ' : Mem} {x : Int} (k : keepQ σ τ') (j : Nat) : mset τ' (5, 1) 0 x (4, j) = σ (4, j) := by rw [m5_ne (by decide), k.1 4 j (by decide)]
theorem en_no {σ : Mem} (h : endsNo σ 0) (k : endsYes σ 0) : False := by
  unfold endsNo at h
  unfold endsYes at k
  have h : σ (6, 8) 0 = -1 ∧ σ (6, 9) 0 = -1 := h
  have k : (0 ≤ σ (6, 8) 0 ∧ σ (6, 8) 0 < σ (0, 0) 0) ∧ (0 ≤ σ (6, 9) 0 ∧ σ (6, 9) 0 < σ (0, 0) 0) ∧ σ (6, 8) 0 ≠ σ (6, 9) 0 := k
  omega
theorem SIM.num {σ : Mem} (S : SIM σ) : (0 ≤ σ (0, 0) 0 ∧ σ (0, 0) 0 ≤ 24) ∧ (0 ≤ σ (0, 1) 0 ∧ σ (0, 1) 0 ≤ 80) ∧ σ (0, 0) 0 = σ (4, 2) 0 ∧ σ (0, 1) 0 = σ (4, 3) 0 := ⟨S.1.net.1, S.1.net.2.1, S.2.1.1, S.2.1.2.1⟩

abbrev PF_addNode (σ : Mem) : Int → Mem → Prop := (fun z τ => fnOk τ ∧ σ (0, 0) 0 < 24 ∧ anP σ τ ∧ z = σ (0, 0) 0)
abbrev XF_addNode (σ : Mem) : String → Prop := ((fun E => E = ISE ∧ σ (0, 0) 0 = 24))
abbrev PM_addNode (σ : Mem) : Int → Mem → Prop := (fun z τ => (σ (4, 2) 0 = 24 ∧ fq σ τ ∧ τ (4, 1) 0 = 1) ∨ (σ (4, 2) 0 < 24 ∧ frL [(4, 1), (4, 2)] σ τ ∧ τ (4, 1) 0 = 0 ∧ τ (4, 2) 0 = σ (4, 2) 0 + 1 ∧ z = σ (4, 2) 0))
abbrev PF_addArc (σ : Mem) (s t c : Int) : Int → Mem → Prop := (fun z τ => fnOk τ ∧ ((0 ≤ s ∧ s < σ (0, 0) 0) ∧ (0 ≤ t ∧ t < σ (0, 0) 0) ∧ s ≠ t ∧ (0 ≤ c ∧ c ≤ 1000000)) ∧ σ (0, 1) 0 < 80 ∧ aaP σ τ s t c ∧ z = σ (0, 1) 0)
abbrev XF_addArc (σ : Mem) (s t c : Int) : String → Prop := ((fun E => (E = IOB ∧ ¬ ((0 ≤ s ∧ s < σ (0, 0) 0) ∧ (0 ≤ t ∧ t < σ (0, 0) 0))) ∨ ((0 ≤ s ∧ s < σ (0, 0) 0) ∧ (0 ≤ t ∧ t < σ (0, 0) 0) ∧ E = IAE ∧ (s = t ∨ ¬ (0 ≤ c ∧ c ≤ 1000000))) ∨ (((0 ≤ s ∧ s < σ (0, 0) 0) ∧ (0 ≤ t ∧ t < σ (0, 0) 0) ∧ s ≠ t ∧ (0 ≤ c ∧ c ≤ 1000000)) ∧ E = ISE ∧ σ (0, 1) 0 = 80)))
abbrev PM_addArc (σ : Mem) (s t c : Int) : Int → Mem → Prop := (fun z τ => (¬ ((0 ≤ s ∧ s < σ (4, 2) 0) ∧ (0 ≤ t ∧ t < σ (4, 2) 0)) ∧ fq σ τ ∧ τ (4, 1) 0 = 1) ∨ (((0 ≤ s ∧ s < σ (4, 2) 0) ∧ (0 ≤ t ∧ t < σ (4, 2) 0)) ∧ (((s = t ∨ ¬ (0 ≤ c ∧ c ≤ 1000000)) ∧ fq σ τ ∧ τ (4, 1) 0 = 2) ∨ ((s ≠ t ∧ (0 ≤ c ∧ c ≤ 1000000)) ∧ ((σ (4, 3) 0 = 80 ∧ fq σ τ ∧ τ (4, 1) 0 = 3) ∨ (σ (4, 3) 0 < 80 ∧ frL [(4, 1), (4, 3), (4, 4), (4, 5), (4, 6)] σ τ ∧ τ (4, 1) 0 = 0 ∧ τ (4, 3) 0 = σ (4, 3) 0 + 1 ∧ (∀ j, τ (4, 4) j = if j = σ (4, 3) 0 then s else σ (4, 4) j) ∧ (∀ j, τ (4, 5) j = if j = σ (4, 3) 0 then t else σ (4, 5) j) ∧ (∀ j, τ (4, 6) j = if j = σ (4, 3) 0 then c else σ (4, 6) j) ∧ z = σ (4, 3) 0))))))
abbrev PF_setCapacity (σ : Mem) (a c : Int) : Int → Mem → Prop := (fun z τ => fnOk τ ∧ keepC σ τ (updC (σ (6, 2)) a c) ∧ (0 ≤ a ∧ a < σ (0, 1) 0) ∧ (0 ≤ c ∧ c ≤ 1000000) ∧ z = σ (6, 2) a)
abbrev XF_setCapacity (σ : Mem) (a c : Int) : String → Prop := ((fun E => (E = IOB ∧ ¬ (0 ≤ a ∧ a < σ (0, 1) 0)) ∨ ((0 ≤ a ∧ a < σ (0, 1) 0) ∧ E = IAE ∧ ¬ (0 ≤ c ∧ c ≤ 1000000))))
abbrev PM_setCapacity (σ : Mem) (a c : Int) : Int → Mem → Prop := (fun z τ => (¬ (0 ≤ a ∧ a < σ (4, 3) 0) ∧ fq σ τ ∧ τ (4, 1) 0 = 1) ∨ ((0 ≤ a ∧ a < σ (4, 3) 0) ∧ ((¬ (0 ≤ c ∧ c ≤ 1000000) ∧ fq σ τ ∧ τ (4, 1) 0 = 2) ∨ ((0 ≤ c ∧ c ≤ 1000000) ∧ frL [(4, 1), (4, 6)] σ τ ∧ τ (4, 1) 0 = 0 ∧ (∀ j, τ (4, 6) j = if j = a then c else σ (4, 6) j) ∧ z = σ (4, 6) a))))
abbrev PF_scale (σ : Mem) (v k : Int) : Int → Mem → Prop := (fun z τ => fnOk τ ∧ keepC σ τ (scC σ v k (σ (0, 1) 0)) ∧ (0 ≤ v ∧ v < σ (0, 0) 0) ∧ (0 ≤ k ∧ k ≤ 8000) ∧ z = sm (chF σ v k) (σ (0, 1) 0).toNat)
abbrev XF_scale (σ : Mem) (v k : Int) : String → Prop := ((fun E => (E = IOB ∧ ¬ (0 ≤ v ∧ v < σ (0, 0) 0)) ∨ ((0 ≤ v ∧ v < σ (0, 0) 0) ∧ E = IAE ∧ ¬ (0 ≤ k ∧ k ≤ 8000))))
abbrev PM_scale (σ : Mem) (v k : Int) : Int → Mem → Prop := (fun z τ => (¬ (0 ≤ v ∧ v < σ (4, 2) 0) ∧ fq σ τ ∧ τ (4, 1) 0 = 1) ∨ ((0 ≤ v ∧ v < σ (4, 2) 0) ∧ ((¬ (0 ≤ k ∧ k ≤ 8000) ∧ fq σ τ ∧ τ (4, 1) 0 = 2) ∨ ((0 ≤ k ∧ k ≤ 8000) ∧ mscI σ τ v k (σ (4, 3) 0) z))))
abbrev PF_setEnds (σ : Mem) (s t : Int) : Int → Mem → Prop := (fun z τ => fnOk τ ∧ keepE σ τ s t ∧ ((0 ≤ s ∧ s < σ (0, 0) 0) ∧ (0 ≤ t ∧ t < σ (0, 0) 0) ∧ s ≠ t) ∧ (z = 0 ∨ z = 1) ∧ (z = 1 ↔ ¬ (σ (6, 8) 0 = s ∧ σ (6, 9) 0 = t)))
abbrev XF_setEnds (σ : Mem) (s t : Int) : String → Prop := ((fun E => (E = IOB ∧ ¬ ((0 ≤ s ∧ s < σ (0, 0) 0) ∧ (0 ≤ t ∧ t < σ (0, 0) 0))) ∨ ((0 ≤ s ∧ s < σ (0, 0) 0) ∧ (0 ≤ t ∧ t < σ (0, 0) 0) ∧ E = IAE ∧ s = t)))
abbrev PM_setEnds (σ : Mem) (s t : Int) : Int → Mem → Prop := (fun z τ => (¬ ((0 ≤ s ∧ s < σ (4, 2) 0) ∧ (0 ≤ t ∧ t < σ (4, 2) 0)) ∧ fq σ τ ∧ τ (4, 1) 0 = 1) ∨ (((0 ≤ s ∧ s < σ (4, 2) 0) ∧ (0 ≤ t ∧ t < σ (4, 2) 0)) ∧ ((s = t ∧ fq σ τ ∧ τ (4, 1) 0 = 2) ∨ (s ≠ t ∧ frL [(4, 1), (4, 7), (4, 8)] σ τ ∧ τ (4, 1) 0 = 0 ∧ (τ (4, 7) 0 = s ∧ τ (4, 8) 0 = t) ∧ (z = 0 ∨ z = 1) ∧ (z = 1 ↔ ¬ (σ (4, 7) 0 = s ∧ σ (4, 8) 0 = t))))))
abbrev PF_capacity (σ : Mem) (a : Int) : Int → Mem → Prop := (fun z τ => τ = σ ∧ (0 ≤ a ∧ a < σ (0, 1) 0) ∧ z = σ (6, 2) a)
abbrev XF_capacity (σ : Mem) (a : Int) : String → Prop := ((fun E => E = IOB ∧ ¬ (0 ≤ a ∧ a < σ (0, 1) 0)))
abbrev PM_capacity (σ : Mem) (a : Int) : Int → Mem → Prop := (fun z τ => fq σ τ ∧ ((¬ (0 ≤ a ∧ a < σ (4, 3) 0) ∧ τ (4, 1) 0 = 1) ∨ ((0 ≤ a ∧ a < σ (4, 3) 0) ∧ τ (4, 1) 0 = 0 ∧ z = σ (4, 6) a)))
abbrev PF_maximum (σ : Mem) : Int → Mem → Prop := (fun z τ => fnOk τ ∧ keepQ σ τ ∧ endsYes σ 0 ∧ mnS σ (σ (6, 2)) (σ (6, 8) 0) (σ (6, 9) 0) z)
abbrev XF_maximum (σ : Mem) : String → Prop := ((fun E => E = ISE ∧ endsNo σ 0))
abbrev PM_maximum (σ : Mem) : Int → Mem → Prop := (fun z τ => fq σ τ ∧ ((mEn σ ∧ τ (4, 1) 0 = 1) ∨ (mEy σ ∧ τ (4, 1) 0 = 0 ∧ mnM σ (σ (4, 6)) (σ (4, 7) 0) (σ (4, 8) 0) z)))
abbrev PF_maximumWith (σ : Mem) (a c : Int) : Int → Mem → Prop := (fun z τ => fnOk τ ∧ keepQ σ τ ∧ endsYes σ 0 ∧ (0 ≤ a ∧ a < σ (0, 1) 0) ∧ (0 ≤ c ∧ c ≤ 1000000) ∧ mnS σ (updC (σ (6, 2)) a c) (σ (6, 8) 0) (σ (6, 9) 0) z)
abbrev XF_maximumWith (σ : Mem) (a c : Int) : String → Prop := ((fun E => (E = ISE ∧ endsNo σ 0) ∨ (endsYes σ 0 ∧ E = IOB ∧ ¬ (0 ≤ a ∧ a < σ (0, 1) 0)) ∨ (endsYes σ 0 ∧ (0 ≤ a ∧ a < σ (0, 1) 0) ∧ E = IAE ∧ ¬ (0 ≤ c ∧ c ≤ 1000000))))
abbrev PM_maximumWith (σ : Mem) (a c : Int) : Int → Mem → Prop := (fun z τ => fq σ τ ∧ (((mEn σ ∧ τ (4, 1) 0 = 1) ∨ (mEy σ ∧ ¬ (0 ≤ a ∧ a < σ (4, 3) 0) ∧ τ (4, 1) 0 = 2)) ∨ ((mEy σ ∧ (0 ≤ a ∧ a < σ (4, 3) 0)) ∧ ((¬ (0 ≤ c ∧ c ≤ 1000000) ∧ τ (4, 1) 0 = 3) ∨ ((0 ≤ c ∧ c ≤ 1000000) ∧ τ (4, 1) 0 = 0 ∧ mnM σ (updC (σ (4, 6)) a c) (σ (4, 7) 0) (σ (4, 8) 0) z)))))
abbrev PF_maximumWithout (σ : Mem) (v : Int) : Int → Mem → Prop := (fun z τ => fnOk τ ∧ keepQ σ τ ∧ endsYes σ 0 ∧ (0 ≤ v ∧ v < σ (0, 0) 0) ∧ mnS σ (woC σ v (σ (0, 1) 0)) (σ (6, 8) 0) (σ (6, 9) 0) z)
abbrev XF_maximumWithout (σ : Mem) (v : Int) : String → Prop := ((fun E => (E = ISE ∧ endsNo σ 0) ∨ (endsYes σ 0 ∧ E = IOB ∧ ¬ (0 ≤ v ∧ v < σ (0, 0) 0))))
abbrev PM_maximumWithout (σ : Mem) (v : Int) : Int → Mem → Prop := (fun z τ => fq σ τ ∧ ((mEn σ ∧ τ (4, 1) 0 = 1) ∨ (mEy σ ∧ ((¬ (0 ≤ v ∧ v < σ (4, 2) 0) ∧ τ (4, 1) 0 = 2) ∨ ((0 ≤ v ∧ v < σ (4, 2) 0) ∧ τ (4, 1) 0 = 0 ∧ mnM σ (woM σ v (σ (4, 3) 0)) (σ (4, 7) 0) (σ (4, 8) 0) z)))))
abbrev PF_maximumBetween (σ : Mem) (s t : Int) : Int → Mem → Prop := (fun z τ => fnOk τ ∧ keepQ σ τ ∧ ((0 ≤ s ∧ s < σ (0, 0) 0) ∧ (0 ≤ t ∧ t < σ (0, 0) 0) ∧ s ≠ t) ∧ mnS σ (σ (6, 2)) s t z)
abbrev XF_maximumBetween (σ : Mem) (s t : Int) : String → Prop := ((fun E => (E = IOB ∧ ¬ ((0 ≤ s ∧ s < σ (0, 0) 0) ∧ (0 ≤ t ∧ t < σ (0, 0) 0))) ∨ ((0 ≤ s ∧ s < σ (0, 0) 0) ∧ (0 ≤ t ∧ t < σ (0, 0) 0) ∧ E = IAE ∧ s = t)))
abbrev PM_maximumBetween (σ : Mem) (s t : Int) : Int → Mem → Prop := (fun z τ => fq σ τ ∧ ((¬ ((0 ≤ s ∧ s < σ (4, 2) 0) ∧ (0 ≤ t ∧ t < σ (4, 2) 0)) ∧ τ (4, 1) 0 = 1) ∨ (((0 ≤ s ∧ s < σ (4, 2) 0) ∧ (0 ≤ t ∧ t < σ (4, 2) 0)) ∧ ((s = t ∧ τ (4, 1) 0 = 2) ∨ (s ≠ t ∧ τ (4, 1) 0 = 0 ∧ mnM σ (σ (4, 6)) s t z)))))
abbrev PF_utilization (σ : Mem) : UInt64 → Mem → Prop := (fun z τ => fnOk τ ∧ keepQ σ τ ∧ endsYes σ 0 ∧ utS σ z)
abbrev XF_utilization (σ : Mem) : String → Prop := ((fun E => E = ISE ∧ endsNo σ 0))
abbrev PM_utilization (σ : Mem) : UInt64 → Mem → Prop := (fun z τ => fq σ τ ∧ ((mEn σ ∧ τ (4, 1) 0 = 1) ∨ (mEy σ ∧ τ (4, 1) 0 = 0 ∧ utM σ z)))
abbrev PF_leastFlow (σ : Mem) (a : Int) : Int → Mem → Prop := (fun z τ => fnOk τ ∧ keepQ σ τ ∧ endsYes σ 0 ∧ (0 ≤ a ∧ a < σ (0, 1) 0) ∧ leS σ a z)
abbrev XF_leastFlow (σ : Mem) (a : Int) : String → Prop := ((fun E => (E = ISE ∧ endsNo σ 0) ∨ (endsYes σ 0 ∧ E = IOB ∧ ¬ (0 ≤ a ∧ a < σ (0, 1) 0))))
abbrev PM_leastFlow (σ : Mem) (a : Int) : Int → Mem → Prop := (fun z τ => fq σ τ ∧ (((mEn σ ∧ τ (4, 1) 0 = 1) ∨ (mEy σ ∧ ¬ (0 ≤ a ∧ a < σ (4, 3) 0) ∧ τ (4, 1) 0 = 2)) ∨ ((mEy σ ∧ (0 ≤ a ∧ a < σ (4, 3) 0)) ∧ τ (4, 1) 0 = 0 ∧ lfM σ a z)))
abbrev PF_greatestFlow (σ : Mem) (a : Int) : Int → Mem → Prop := (fun z τ => fnOk τ ∧ keepQ σ τ ∧ endsYes σ 0 ∧ (0 ≤ a ∧ a < σ (0, 1) 0) ∧ gfS σ a z)
abbrev XF_greatestFlow (σ : Mem) (a : Int) : String → Prop := ((fun E => (E = ISE ∧ endsNo σ 0) ∨ (endsYes σ 0 ∧ E = IOB ∧ ¬ (0 ≤ a ∧ a < σ (0, 1) 0))))
abbrev PM_greatestFlow (σ : Mem) (a : Int) : Int → Mem → Prop := (fun z τ => fq σ τ ∧ (((mEn σ ∧ τ (4, 1) 0 = 1) ∨ (mEy σ ∧ ¬ (0 ≤ a ∧ a < σ (4, 3) 0) ∧ τ (4, 1) 0 = 2)) ∨ ((mEy σ ∧ (0 ≤ a ∧ a < σ (4, 3) 0)) ∧ τ (4, 1) 0 = 0 ∧ gfM σ a z)))
abbrev PF_cutCapacity (σ : Mem) (m : Int) : Int → Mem → Prop := (fun z τ => τ = σ ∧ endsYes σ 0 ∧ cutS σ m ∧ z = gcp (σ (0, 1) 0).toNat (σ (0, 2)) (σ (0, 3)) (σ (6, 2)) (bt m))
abbrev XF_cutCapacity (σ : Mem) (m : Int) : String → Prop := ((fun E => (E = ISE ∧ endsNo σ 0) ∨ (endsYes σ 0 ∧ E = IAE ∧ ¬ cutS σ m)))
abbrev PM_cutCapacity (σ : Mem) (m : Int) : Int → Mem → Prop := (fun z τ => fq σ τ ∧ ((mEn σ ∧ τ (4, 1) 0 = 1) ∨ (mEy σ ∧ ((¬ cutM σ m ∧ τ (4, 1) 0 = 2) ∨ (cutM σ m ∧ τ (4, 1) 0 = 0 ∧ z = gcp (σ (4, 3) 0).toNat (σ (4, 4)) (σ (4, 5)) (σ (4, 6)) (bt m))))))
abbrev PF_smallestCut (σ : Mem) : Int → Mem → Prop := (fun z τ => fnOk τ ∧ keepQ σ τ ∧ endsYes σ 0 ∧ smP σ z)
abbrev XF_smallestCut (σ : Mem) : String → Prop := ((fun E => E = ISE ∧ endsNo σ 0))
abbrev PM_smallestCut (σ : Mem) : Int → Mem → Prop := (fun z τ => fq σ τ ∧ ((mEn σ ∧ τ (4, 1) 0 = 1) ∨ (mEy σ ∧ τ (4, 1) 0 = 0 ∧ smM σ z)))
abbrev PF_greatestCut (σ : Mem) : Int → Mem → Prop := (fun z τ => fnOk τ ∧ keepQ σ τ ∧ endsYes σ 0 ∧ gtP σ z)
abbrev XF_greatestCut (σ : Mem) : String → Prop := ((fun E => E = ISE ∧ endsNo σ 0))
abbrev PM_greatestCut (σ : Mem) : Int → Mem → Prop := (fun z τ => fq σ τ ∧ ((mEn σ ∧ τ (4, 1) 0 = 1) ∨ (mEy σ ∧ τ (4, 1) 0 = 0 ∧ gtM σ z)))
abbrev PF_findCuts (σ : Mem) : Int → Mem → Prop := (fun z τ => (fnOk τ ∧ (∀ g k : Nat, g ≠ 3 → g < 6 → τ (g, k) = σ (g, k)) ∧ (∀ k : Nat, k < 4 → τ (3, k) = σ (3, k)) ∧ (τ (6, 2) = σ (6, 2) ∧ τ (6, 8) = σ (6, 8) ∧ τ (6, 9) = σ (6, 9)) ∧ fcS (mcS σ) (σ (0, 0) 0) (smP σ) (τ (3, 5)) (τ (3, 4) 0)) ∧ endsYes σ 0 ∧ z = τ (3, 4) 0)
abbrev XF_findCuts (σ : Mem) : String → Prop := ((fun E => E = ISE ∧ endsNo σ 0))
abbrev PM_findCuts (σ : Mem) : Int → Mem → Prop := (fun z τ => (mEn σ ∧ fq σ τ ∧ τ (4, 1) 0 = 1) ∨ (mEy σ ∧ fq2 σ τ ∧ τ (4, 1) 0 = 0 ∧ z = τ (4, 15) 0 ∧ fcS (mcM σ) (σ (4, 2) 0) (smM σ) (τ (4, 14)) z))
abbrev PF_cut (σ : Mem) (i : Int) : Int → Mem → Prop := (fun z τ => τ = σ ∧ (0 ≤ i ∧ i < σ (3, 4) 0) ∧ z = σ (3, 5) i)
abbrev XF_cut (σ : Mem) (i : Int) : String → Prop := ((fun E => E = IOB ∧ ¬ (0 ≤ i ∧ i < σ (3, 4) 0)))
abbrev PM_cut (σ : Mem) (i : Int) : Int → Mem → Prop := (fun z τ => fq σ τ ∧ ((¬ (0 ≤ i ∧ i < σ (4, 15) 0) ∧ τ (4, 1) 0 = 1) ∨ ((0 ≤ i ∧ i < σ (4, 15) 0) ∧ τ (4, 1) 0 = 0 ∧ z = σ (4, 14) i)))
abbrev PF_isBottleneck (σ : Mem) (a : Int) : Int → Mem → Prop := (fun z τ => fnOk τ ∧ keepQ σ τ ∧ endsYes σ 0 ∧ (0 ≤ a ∧ a < σ (0, 1) 0) ∧ (z = 0 ∨ z = 1) ∧ (z = 1 ↔ botS σ a))
abbrev XF_isBottleneck (σ : Mem) (a : Int) : String → Prop := ((fun E => (E = ISE ∧ endsNo σ 0) ∨ (endsYes σ 0 ∧ E = IOB ∧ ¬ (0 ≤ a ∧ a < σ (0, 1) 0))))
abbrev PM_isBottleneck (σ : Mem) (a : Int) : Int → Mem → Prop := (fun z τ => fq σ τ ∧ (((mEn σ ∧ τ (4, 1) 0 = 1) ∨ (mEy σ ∧ ¬ (0 ≤ a ∧ a < σ (4, 3) 0) ∧ τ (4, 1) 0 = 2)) ∨ ((mEy σ ∧ (0 ≤ a ∧ a < σ (4, 3) 0)) ∧ τ (4, 1) 0 = 0 ∧ ((z = 0 ∨ z = 1) ∧ (z = 1 ↔ btM σ a)))))
abbrev PF_isLimiting (σ : Mem) (a : Int) : Int → Mem → Prop := (fun z τ => fnOk τ ∧ keepQ σ τ ∧ endsYes σ 0 ∧ (0 ≤ a ∧ a < σ (0, 1) 0) ∧ (z = 0 ∨ z = 1) ∧ (z = 1 ↔ limS σ a))
abbrev XF_isLimiting (σ : Mem) (a : Int) : String → Prop := ((fun E => (E = ISE ∧ endsNo σ 0) ∨ (endsYes σ 0 ∧ E = IOB ∧ ¬ (0 ≤ a ∧ a < σ (0, 1) 0))))
abbrev PM_isLimiting (σ : Mem) (a : Int) : Int → Mem → Prop := (fun z τ => fq σ τ ∧ (((mEn σ ∧ τ (4, 1) 0 = 1) ∨ (mEy σ ∧ ¬ (0 ≤ a ∧ a < σ (4, 3) 0) ∧ τ (4, 1) 0 = 2)) ∨ ((mEy σ ∧ (0 ≤ a ∧ a < σ (4, 3) 0)) ∧ τ (4, 1) 0 = 0 ∧ liM σ a z)))
abbrev PF_headroom (σ : Mem) (a : Int) : Int → Mem → Prop := (fun z τ => fnOk τ ∧ keepQ σ τ ∧ endsYes σ 0 ∧ (0 ≤ a ∧ a < σ (0, 1) 0) ∧ (((σ (0, 2) a = σ (6, 8) 0 ∧ σ (0, 3) a = σ (6, 9) 0) ∧ z = -1) ∨ (¬ (σ (0, 2) a = σ (6, 8) 0 ∧ σ (0, 3) a = σ (6, 9) 0) ∧ ∃ F F1, mnS σ (σ (6, 2)) (σ (6, 8) 0) (σ (6, 9) 0) F ∧ mnS σ (updC (σ (6, 2)) a 100000000) (σ (6, 8) 0) (σ (6, 9) 0) F1 ∧ z = F1 - F)))
abbrev XF_headroom (σ : Mem) (a : Int) : String → Prop := ((fun E => (E = ISE ∧ endsNo σ 0) ∨ (endsYes σ 0 ∧ E = IOB ∧ ¬ (0 ≤ a ∧ a < σ (0, 1) 0))))
abbrev PM_headroom (σ : Mem) (a : Int) : Int → Mem → Prop := (fun z τ => fq σ τ ∧ (((mEn σ ∧ τ (4, 1) 0 = 1) ∨ (mEy σ ∧ ¬ (0 ≤ a ∧ a < σ (4, 3) 0) ∧ τ (4, 1) 0 = 2)) ∨ ((mEy σ ∧ (0 ≤ a ∧ a < σ (4, 3) 0)) ∧ τ (4, 1) 0 = 0 ∧ hrM σ a z)))
abbrev PF_push (σ : Mem) : Int → Mem → Prop := (fun z τ => fnOk τ ∧ σ (3, 0) 0 < 8 ∧ pushP σ τ ∧ z = σ (3, 0) 0 + 1)
abbrev XF_push (σ : Mem) : String → Prop := ((fun E => E = ISE ∧ σ (3, 0) 0 = 8))
abbrev PM_push (σ : Mem) : Int → Mem → Prop := (fun z τ => (σ (4, 9) 0 = 8 ∧ fq σ τ ∧ τ (4, 1) 0 = 1) ∨ (σ (4, 9) 0 < 8 ∧ (∃ υ, mPush σ υ (σ (4, 3) 0) ∧ τ = mset υ (4, 9) 0 (σ (4, 9) 0 + 1)) ∧ z = σ (4, 9) 0 + 1))
abbrev PF_pop (σ : Mem) : Int → Mem → Prop := (fun z τ => fnOk τ ∧ 0 < σ (3, 0) 0 ∧ popP σ τ ∧ z = σ (3, 0) 0 - 1)
abbrev XF_pop (σ : Mem) : String → Prop := ((fun E => E = ISE ∧ σ (3, 0) 0 = 0))
abbrev PM_pop (σ : Mem) : Int → Mem → Prop := (fun z τ => (σ (4, 9) 0 = 0 ∧ fq σ τ ∧ τ (4, 1) 0 = 1) ∨ (0 < σ (4, 9) 0 ∧ mPop σ τ (σ (4, 3) 0) ∧ z = σ (4, 9) 0 - 1))
theorem st_maximum {σ τ υ : Mem} {e b : Int} (S : SIM σ) (p : wPost (PF_maximum σ) (XF_maximum σ) [(ISE, 1)] σ e τ) (q : PM_maximum τ b υ) : OKs υ e b := by
  have hN := S.2.1
  have hnum := S.num
  have hm := hnum.2.1.1
  rcases p with ⟨rfl, w, τ', p, rfl⟩ | ⟨E, hE, hk, rfl⟩
  · obtain ⟨hf, kq, hE, ha⟩ := p
    have e4 : ∀ j : Nat, mset τ' (5, 0) 0 (iI w).toInt (4, j) = σ (4, j) := kq.e4
    obtain ⟨f, q⟩ := q
    unfold mEn mEy mnM at q
    simp only [e4] at q
    rcases q with ⟨q1, -⟩ | ⟨q1, q2, q3⟩
    · exact (mEn_no q1 ((sim_ey hN).mp hE)).elim
    · exact st_ok (S.ask kq hf) f q2 (sim_mx hN hm ha q3)
  · obtain ⟨rfl, hE⟩ := hE
    simp [ISE, IOB, IAE] at hk
    subst hk
    obtain ⟨f, q⟩ := q
    rcases q with ⟨q1, q2⟩ | ⟨q1, q2, q3⟩
    · exact st_no S f q2 (by decide)
    · exact (mEn_no ((sim_en hN).mp hE) q1).elim
theorem st_smallestCut {σ τ υ : Mem} {e b : Int} (S : SIM σ) (p : wPost (PF_smallestCut σ) (XF_smallestCut σ) [(ISE, 1)] σ e τ) (q : PM_smallestCut τ b υ) : OKs υ e b := by
  have hN := S.2.1
  have hnum := S.num
  have hm := hnum.2.1.1
  rcases p with ⟨rfl, w, τ', p, rfl⟩ | ⟨E, hE, hk, rfl⟩
  · obtain ⟨hf, kq, hE, ha⟩ := p
    have e4 : ∀ j : Nat, mset τ' (5, 0) 0 (iI w).toInt (4, j) = σ (4, j) := kq.e4
    obtain ⟨f, q⟩ := q
    unfold mEn mEy smM mcM at q
    simp only [e4] at q
    rcases q with ⟨q1, -⟩ | ⟨q1, q2, q3⟩
    · exact (mEn_no q1 ((sim_ey hN).mp hE)).elim
    · exact st_ok (S.ask kq hf) f q2 (sm_one ((sim_sm hN hm).mp ha) q3)
  · obtain ⟨rfl, hE⟩ := hE
    simp [ISE, IOB, IAE] at hk
    subst hk
    obtain ⟨f, q⟩ := q
    rcases q with ⟨q1, q2⟩ | ⟨q1, q2, q3⟩
    · exact st_no S f q2 (by decide)
    · exact (mEn_no ((sim_en hN).mp hE) q1).elim
theorem st_greatestCut {σ τ υ : Mem} {e b : Int} (S : SIM σ) (p : wPost (PF_greatestCut σ) (XF_greatestCut σ) [(ISE, 1)] σ e τ) (q : PM_greatestCut τ b υ) : OKs υ e b := by
  have hN := S.2.1
  have hnum := S.num
  have hm := hnum.2.1.1
  rcases p with ⟨rfl, w, τ', p, rfl⟩ | ⟨E, hE, hk, rfl⟩
  · obtain ⟨hf, kq, hE, ha⟩ := p
    have e4 : ∀ j : Nat, mset τ' (5, 0) 0 (iI w).toInt (4, j) = σ (4, j) := kq.e4
    obtain ⟨f, q⟩ := q
    unfold mEn mEy gtM mcM at q
    simp only [e4] at q
    rcases q with ⟨q1, -⟩ | ⟨q1, q2, q3⟩
    · exact (mEn_no q1 ((sim_ey hN).mp hE)).elim
    · exact st_ok (S.ask kq hf) f q2 (gt_one ((sim_gt hN hm).mp ha) q3)
  · obtain ⟨rfl, hE⟩ := hE
    simp [ISE, IOB, IAE] at hk
    subst hk
    obtain ⟨f, q⟩ := q
    rcases q with ⟨q1, q2⟩ | ⟨q1, q2, q3⟩
    · exact st_no S f q2 (by decide)
    · exact (mEn_no ((sim_en hN).mp hE) q1).elim
theorem st_leastFlow {σ τ υ : Mem} {e b : Int} {a : Int} (S : SIM σ) (p : wPost (PF_leastFlow σ a) (XF_leastFlow σ a) [(ISE, 1), (IOB, 2)] σ e τ) (q : PM_leastFlow τ a b υ) : OKs υ e b := by
  have hN := S.2.1
  have hnum := S.num
  have hm := hnum.2.1.1
  rcases p with ⟨rfl, w, τ', p, rfl⟩ | ⟨E, hE, hk, rfl⟩
  · obtain ⟨hf, kq, hE, hA, ha⟩ := p
    have e4 : ∀ j : Nat, mset τ' (5, 0) 0 (iI w).toInt (4, j) = σ (4, j) := kq.e4
    obtain ⟨f, q⟩ := q
    unfold mEn mEy lfM mnM at q
    simp only [e4] at q
    rcases q with (⟨q1, -⟩ | ⟨-, q1, -⟩) | ⟨-, q2, q3⟩
    · exact (mEn_no q1 ((sim_ey hN).mp hE)).elim
    · omega
    · exact st_ok (S.ask kq hf) f q2 (sim_le hN hm ha q3)
  · obtain ⟨f, q⟩ := q
    rcases hE with ⟨rfl, hE⟩ | ⟨hE, rfl, hA⟩
    · simp [ISE, IOB, IAE] at hk
      subst hk
      rcases q with (⟨q1, q2⟩ | ⟨q1, -, -⟩) | ⟨⟨q1, -⟩, -, -⟩
      · exact st_no S f q2 (by decide)
      · exact (mEn_no ((sim_en hN).mp hE) q1).elim
      · exact (mEn_no ((sim_en hN).mp hE) q1).elim
    · simp [ISE, IOB, IAE] at hk
      subst hk
      rcases q with (⟨q1, -⟩ | ⟨q1, -, q2⟩) | ⟨⟨-, q1⟩, -, -⟩
      · exact (mEn_no q1 ((sim_ey hN).mp hE)).elim
      · exact st_no S f q2 (by decide)
      · omega
theorem st_greatestFlow {σ τ υ : Mem} {e b : Int} {a : Int} (S : SIM σ) (p : wPost (PF_greatestFlow σ a) (XF_greatestFlow σ a) [(ISE, 1), (IOB, 2)] σ e τ) (q : PM_greatestFlow τ a b υ) : OKs υ e b := by
  have hN := S.2.1
  have hnum := S.num
  have hm := hnum.2.1.1
  rcases p with ⟨rfl, w, τ', p, rfl⟩ | ⟨E, hE, hk, rfl⟩
  · obtain ⟨hf, kq, hE, hA, ha⟩ := p
    have e4 : ∀ j : Nat, mset τ' (5, 0) 0 (iI w).toInt (4, j) = σ (4, j) := kq.e4
    obtain ⟨f, q⟩ := q
    unfold mEn mEy gfM mnM at q
    simp only [e4] at q
    rcases q with (⟨q1, -⟩ | ⟨-, q1, -⟩) | ⟨-, q2, q3⟩
    · exact (mEn_no q1 ((sim_ey hN).mp hE)).elim
    · omega
    · exact st_ok (S.ask kq hf) f q2 (sim_gf hN hm hA ha q3)
  · obtain ⟨f, q⟩ := q
    rcases hE with ⟨rfl, hE⟩ | ⟨hE, rfl, hA⟩
    · simp [ISE, IOB, IAE] at hk
      subst hk
      rcases q with (⟨q1, q2⟩ | ⟨q1, -, -⟩) | ⟨⟨q1, -⟩, -, -⟩
      · exact st_no S f q2 (by decide)
      · exact (mEn_no ((sim_en hN).mp hE) q1).elim
      · exact (mEn_no ((sim_en hN).mp hE) q1).elim
    · simp [ISE, IOB, IAE] at hk
      subst hk
      rcases q with (⟨q1, -⟩ | ⟨q1, -, q2⟩) | ⟨⟨-, q1⟩, -, -⟩
      · exact (mEn_no q1 ((sim_ey hN).mp hE)).elim
      · exact st_no S f q2 (by decide)
      · omega
theorem st_headroom {σ τ υ : Mem} {e b : Int} {a : Int} (S : SIM σ) (p : wPost (PF_headroom σ a) (XF_headroom σ a) [(ISE, 1), (IOB, 2)] σ e τ) (q : PM_headroom τ a b υ) : OKs υ e b := by
  have hN := S.2.1
  have hnum := S.num
  have hm := hnum.2.1.1
  rcases p with ⟨rfl, w, τ', p, rfl⟩ | ⟨E, hE, hk, rfl⟩
  · obtain ⟨hf, kq, hE, hA, ha⟩ := p
    have e4 : ∀ j : Nat, mset τ' (5, 0) 0 (iI w).toInt (4, j) = σ (4, j) := kq.e4
    obtain ⟨f, q⟩ := q
    unfold mEn mEy hrM mnM at q
    simp only [e4] at q
    rcases q with (⟨q1, -⟩ | ⟨-, q1, -⟩) | ⟨-, q2, q3⟩
    · exact (mEn_no q1 ((sim_ey hN).mp hE)).elim
    · omega
    · exact st_ok (S.ask kq hf) f q2 (sim_hr S.1 hN hE hA ha q3)
  · obtain ⟨f, q⟩ := q
    rcases hE with ⟨rfl, hE⟩ | ⟨hE, rfl, hA⟩
    · simp [ISE, IOB, IAE] at hk
      subst hk
      rcases q with (⟨q1, q2⟩ | ⟨q1, -, -⟩) | ⟨⟨q1, -⟩, -, -⟩
      · exact st_no S f q2 (by decide)
      · exact (mEn_no ((sim_en hN).mp hE) q1).elim
      · exact (mEn_no ((sim_en hN).mp hE) q1).elim
    · simp [ISE, IOB, IAE] at hk
      subst hk
      rcases q with (⟨q1, -⟩ | ⟨q1, -, q2⟩) | ⟨⟨-, q1⟩, -, -⟩
      · exact (mEn_no q1 ((sim_ey hN).mp hE)).elim
      · exact st_no S f q2 (by decide)
      · omega
theorem st_isBottleneck {σ τ υ : Mem} {e b : Int} {a : Int} (S : SIM σ) (p : wPost (PF_isBottleneck σ a) (XF_isBottleneck σ a) [(ISE, 1), (IOB, 2)] σ e τ) (q : PM_isBottleneck τ a b υ) : OKs υ e b := by
  have hN := S.2.1
  have hnum := S.num
  have hm := hnum.2.1.1
  rcases p with ⟨rfl, w, τ', p, rfl⟩ | ⟨E, hE, hk, rfl⟩
  · obtain ⟨hf, kq, hE, hA, ha⟩ := p
    have e4 : ∀ j : Nat, mset τ' (5, 0) 0 (iI w).toInt (4, j) = σ (4, j) := kq.e4
    obtain ⟨f, q⟩ := q
    unfold mEn mEy btM mcM at q
    simp only [e4] at q
    rcases q with (⟨q1, -⟩ | ⟨-, q1, -⟩) | ⟨-, q2, q3⟩
    · exact (mEn_no q1 ((sim_ey hN).mp hE)).elim
    · omega
    · exact st_ok (S.ask kq hf) f q2 (by
          obtain ⟨a0, a1⟩ := ha
          obtain ⟨b0, b1⟩ := q3
          have hb := sim_bt hN hm hA
          have hc := a1.trans (hb.trans b1.symm)
          omega)
  · obtain ⟨f, q⟩ := q
    rcases hE with ⟨rfl, hE⟩ | ⟨hE, rfl, hA⟩
    · simp [ISE, IOB, IAE] at hk
      subst hk
      rcases q with (⟨q1, q2⟩ | ⟨q1, -, -⟩) | ⟨⟨q1, -⟩, -, -⟩
      · exact st_no S f q2 (by decide)
      · exact (mEn_no ((sim_en hN).mp hE) q1).elim
      · exact (mEn_no ((sim_en hN).mp hE) q1).elim
    · simp [ISE, IOB, IAE] at hk
      subst hk
      rcases q with (⟨q1, -⟩ | ⟨q1, -, q2⟩) | ⟨⟨-, q1⟩, -, -⟩
      · exact (mEn_no q1 ((sim_ey hN).mp hE)).elim
      · exact st_no S f q2 (by decide)
      · omega
theorem st_isLimiting {σ τ υ : Mem} {e b : Int} {a : Int} (S : SIM σ) (p : wPost (PF_isLimiting σ a) (XF_isLimiting σ a) [(ISE, 1), (IOB, 2)] σ e τ) (q : PM_isLimiting τ a b υ) : OKs υ e b := by
  have hN := S.2.1
  have hnum := S.num
  have hm := hnum.2.1.1
  rcases p with ⟨rfl, w, τ', p, rfl⟩ | ⟨E, hE, hk, rfl⟩
  · obtain ⟨hf, kq, hE, hA, ha⟩ := p
    have e4 : ∀ j : Nat, mset τ' (5, 0) 0 (iI w).toInt (4, j) = σ (4, j) := kq.e4
    obtain ⟨f, q⟩ := q
    unfold mEn mEy liM mnM at q
    simp only [e4] at q
    rcases q with (⟨q1, -⟩ | ⟨-, q1, -⟩) | ⟨-, q2, q3⟩
    · exact (mEn_no q1 ((sim_ey hN).mp hE)).elim
    · omega
    · exact st_ok (S.ask kq hf) f q2 (by
          obtain ⟨a0, a1⟩ := ha
          have hb := sim_li hN hm hA q3
          obtain ⟨F, F1, -, -, b0, -⟩ := q3
          have hc := a1.trans hb.symm
          omega)
  · obtain ⟨f, q⟩ := q
    rcases hE with ⟨rfl, hE⟩ | ⟨hE, rfl, hA⟩
    · simp [ISE, IOB, IAE] at hk
      subst hk
      rcases q with (⟨q1, q2⟩ | ⟨q1, -, -⟩) | ⟨⟨q1, -⟩, -, -⟩
      · exact st_no S f q2 (by decide)
      · exact (mEn_no ((sim_en hN).mp hE) q1).elim
      · exact (mEn_no ((sim_en hN).mp hE) q1).elim
    · simp [ISE, IOB, IAE] at hk
      subst hk
      rcases q with (⟨q1, -⟩ | ⟨q1, -, q2⟩) | ⟨⟨-, q1⟩, -, -⟩
      · exact (mEn_no q1 ((sim_ey hN).mp hE)).elim
      · exact st_no S f q2 (by decide)
      · omega
theorem st_maximumWith {σ τ υ : Mem} {e b : Int} {a c : Int} (S : SIM σ) (p : wPost (PF_maximumWith σ a c) (XF_maximumWith σ a c) [(ISE, 1), (IOB, 2), (IAE, 3)] σ e τ) (q : PM_maximumWith τ a c b υ) : OKs υ e b := by
  have hN := S.2.1
  have hnum := S.num
  have hm := hnum.2.1.1
  rcases p with ⟨rfl, w, τ', p, rfl⟩ | ⟨E, hE, hk, rfl⟩
  · obtain ⟨hf, kq, hE, hA, hc, ha⟩ := p
    have e4 : ∀ j : Nat, mset τ' (5, 0) 0 (iI w).toInt (4, j) = σ (4, j) := kq.e4
    obtain ⟨f, q⟩ := q
    unfold mEn mEy mnM at q
    simp only [e4] at q
    rcases q with (⟨q1, -⟩ | ⟨-, q1, -⟩) | ⟨-, ⟨q1, -⟩ | ⟨-, q2, q3⟩⟩
    · exact (mEn_no q1 ((sim_ey hN).mp hE)).elim
    · omega
    · omega
    · exact st_ok (S.ask kq hf) f q2 (sim_upd hN hm ha q3)
  · obtain ⟨f, q⟩ := q
    rcases hE with ⟨rfl, hE⟩ | ⟨hE, rfl, hA⟩ | ⟨hE, hA, rfl, hc⟩
    · simp [ISE, IOB, IAE] at hk
      subst hk
      rcases q with (⟨q1, q2⟩ | ⟨q1, -, -⟩) | ⟨⟨q1, -⟩, -⟩
      · exact st_no S f q2 (by decide)
      · exact (mEn_no ((sim_en hN).mp hE) q1).elim
      · exact (mEn_no ((sim_en hN).mp hE) q1).elim
    · simp [ISE, IOB, IAE] at hk
      subst hk
      rcases q with (⟨q1, -⟩ | ⟨q1, -, q2⟩) | ⟨⟨-, q1⟩, -⟩
      · exact (mEn_no q1 ((sim_ey hN).mp hE)).elim
      · exact st_no S f q2 (by decide)
      · omega
    · simp [ISE, IOB, IAE] at hk
      subst hk
      rcases q with (⟨q1, -⟩ | ⟨q1, q2, -⟩) | ⟨-, ⟨-, q2⟩ | ⟨q1, -, -⟩⟩
      · exact (mEn_no q1 ((sim_ey hN).mp hE)).elim
      · omega
      · exact st_no S f q2 (by decide)
      · omega
theorem st_maximumWithout {σ τ υ : Mem} {e b : Int} {v : Int} (S : SIM σ) (p : wPost (PF_maximumWithout σ v) (XF_maximumWithout σ v) [(ISE, 1), (IOB, 2)] σ e τ) (q : PM_maximumWithout τ v b υ) : OKs υ e b := by
  have hN := S.2.1
  have hnum := S.num
  have hm := hnum.2.1.1
  rcases p with ⟨rfl, w, τ', p, rfl⟩ | ⟨E, hE, hk, rfl⟩
  · obtain ⟨hf, kq, hE, hA, ha⟩ := p
    have e4 : ∀ j : Nat, mset τ' (5, 0) 0 (iI w).toInt (4, j) = σ (4, j) := kq.e4
    obtain ⟨f, q⟩ := q
    unfold mEn mEy mnM woM at q
    simp only [e4] at q
    rcases q with ⟨q1, -⟩ | ⟨-, ⟨q1, -⟩ | ⟨-, q2, q3⟩⟩
    · exact (mEn_no q1 ((sim_ey hN).mp hE)).elim
    · omega
    · exact st_ok (S.ask kq hf) f q2 (sim_wo hN hm ha q3)
  · obtain ⟨f, q⟩ := q
    rcases hE with ⟨rfl, hE⟩ | ⟨hE, rfl, hA⟩
    · simp [ISE, IOB, IAE] at hk
      subst hk
      rcases q with ⟨q1, q2⟩ | ⟨q1, -⟩
      · exact st_no S f q2 (by decide)
      · exact (mEn_no ((sim_en hN).mp hE) q1).elim
    · simp [ISE, IOB, IAE] at hk
      subst hk
      rcases q with ⟨q1, -⟩ | ⟨-, ⟨-, q2⟩ | ⟨q1, -, -⟩⟩
      · exact (mEn_no q1 ((sim_ey hN).mp hE)).elim
      · exact st_no S f q2 (by decide)
      · omega
theorem st_maximumBetween {σ τ υ : Mem} {e b : Int} {s t : Int} (S : SIM σ) (p : wPost (PF_maximumBetween σ s t) (XF_maximumBetween σ s t) [(IOB, 1), (IAE, 2)] σ e τ) (q : PM_maximumBetween τ s t b υ) : OKs υ e b := by
  have hN := S.2.1
  have hnum := S.num
  have hm := hnum.2.1.1
  rcases p with ⟨rfl, w, τ', p, rfl⟩ | ⟨E, hE, hk, rfl⟩
  · obtain ⟨hf, kq, hA, ha⟩ := p
    have e4 : ∀ j : Nat, mset τ' (5, 0) 0 (iI w).toInt (4, j) = σ (4, j) := kq.e4
    obtain ⟨f, q⟩ := q
    unfold mnM at q
    simp only [e4] at q
    rcases q with ⟨q1, -⟩ | ⟨-, ⟨q1, -⟩ | ⟨-, q2, q3⟩⟩
    · omega
    · omega
    · exact st_ok (S.ask kq hf) f q2 (sim_bw hN hm ha q3)
  · obtain ⟨f, q⟩ := q
    rcases hE with ⟨rfl, hA⟩ | ⟨h1, h2, rfl, h3⟩
    · simp [ISE, IOB, IAE] at hk
      subst hk
      rcases q with ⟨-, q2⟩ | ⟨q1, -⟩
      · exact st_no S f q2 (by decide)
      · omega
    · simp [ISE, IOB, IAE] at hk
      subst hk
      rcases q with ⟨q1, -⟩ | ⟨-, ⟨-, q2⟩ | ⟨q1, -, -⟩⟩
      · omega
      · exact st_no S f q2 (by decide)
      · omega
theorem st_capacity {σ τ υ : Mem} {e b : Int} {a : Int} (S : SIM σ) (p : wPost (PF_capacity σ a) (XF_capacity σ a) [(IOB, 1)] σ e τ) (q : PM_capacity τ a b υ) : OKs υ e b := by
  have hN := S.2.1
  have hnum := S.num
  have hm := hnum.2.1.1
  rcases p with ⟨rfl, w, τ', p, rfl⟩ | ⟨E, hE, hk, rfl⟩
  · obtain ⟨rfl, hA, ha⟩ := p
    have e4 : ∀ j : Nat, mset τ' (5, 0) 0 (iI w).toInt (4, j) = τ' (4, j) := fun j => m5_ne (by decide)
    obtain ⟨f, q⟩ := q
    simp only [e4] at q
    rcases q with ⟨q1, -⟩ | ⟨-, q2, q3⟩
    · omega
    · have := (hN.2.2.1 a hA.1 hA.2).2.2
      exact st_ok S f q2 (by omega)
  · obtain ⟨rfl, hA⟩ := hE
    simp [ISE, IOB, IAE] at hk
    subst hk
    obtain ⟨f, q⟩ := q
    rcases q with ⟨-, q2⟩ | ⟨q1, -, -⟩
    · exact st_no S f q2 (by decide)
    · omega
theorem st_cutCapacity {σ τ υ : Mem} {e b : Int} {m : Int} (S : SIM σ) (p : wPost (PF_cutCapacity σ m) (XF_cutCapacity σ m) [(ISE, 1), (IAE, 2)] σ e τ) (q : PM_cutCapacity τ m b υ) : OKs υ e b := by
  have hN := S.2.1
  have hnum := S.num
  have hm := hnum.2.1.1
  rcases p with ⟨rfl, w, τ', p, rfl⟩ | ⟨E, hE, hk, rfl⟩
  · obtain ⟨rfl, hE, hA, ha⟩ := p
    have e4 : ∀ j : Nat, mset τ' (5, 0) 0 (iI w).toInt (4, j) = τ' (4, j) := fun j => m5_ne (by decide)
    obtain ⟨f, q⟩ := q
    unfold mEn mEy cutM at q
    simp only [e4] at q
    rcases q with ⟨q1, -⟩ | ⟨-, ⟨q1, -⟩ | ⟨-, q2, q3⟩⟩
    · exact (mEn_no q1 ((sim_ey hN).mp hE)).elim
    · exact (q1 ((sim_cut hN).mp hA)).elim
    · exact st_ok S f q2 (by rw [ha, q3]; exact sim_gcp hN hm _)
  · obtain ⟨f, q⟩ := q
    rcases hE with ⟨rfl, hE⟩ | ⟨hE, rfl, hA⟩
    · simp [ISE, IOB, IAE] at hk
      subst hk
      rcases q with ⟨q1, q2⟩ | ⟨q1, -⟩
      · exact st_no S f q2 (by decide)
      · exact (mEn_no ((sim_en hN).mp hE) q1).elim
    · simp [ISE, IOB, IAE] at hk
      subst hk
      rcases q with ⟨q1, -⟩ | ⟨-, ⟨-, q2⟩ | ⟨q1, -, -⟩⟩
      · exact (mEn_no q1 ((sim_ey hN).mp hE)).elim
      · exact st_no S f q2 (by decide)
      · exact (hA ((sim_cut hN).mpr q1)).elim
theorem st_cut {σ τ υ : Mem} {e b : Int} {i : Int} (S : SIM σ) (p : wPost (PF_cut σ i) (XF_cut σ i) [(IOB, 1)] σ e τ) (q : PM_cut τ i b υ) : OKs υ e b := by
  have hN := S.2.1
  have hnum := S.num
  have hm := hnum.2.1.1
  rcases p with ⟨rfl, w, τ', p, rfl⟩ | ⟨E, hE, hk, rfl⟩
  · obtain ⟨rfl, hA, ha⟩ := p
    have e4 : ∀ j : Nat, mset τ' (5, 0) 0 (iI w).toInt (4, j) = τ' (4, j) := fun j => m5_ne (by decide)
    obtain ⟨f, q⟩ := q
    simp only [e4] at q
    have hc := S.2.2.2
    rcases q with ⟨q1, -⟩ | ⟨-, q2, q3⟩
    · have := hc.1
      omega
    · have := hc.2 i hA.1 hA.2
      exact st_ok S f q2 (by omega)
  · obtain ⟨rfl, hA⟩ := hE
    have hc := S.2.2.2
    have hc1 := hc.1
    simp [ISE, IOB, IAE] at hk
    subst hk
    obtain ⟨f, q⟩ := q
    rcases q with ⟨-, q2⟩ | ⟨q1, -, -⟩
    · exact st_no S f q2 (by decide)
    · omega
theorem anP.m5 {σ τ : Mem} {x : Int} (h : anP σ τ) : anP (mset σ (5, 0) 0 x) (mset τ (5, 0) 0 x) := ⟨fun q hq => m5_eq (h.1 q hq), by rw [m5_ne (by decide), m5_ne (by decide)]; exact h.2⟩
theorem aaP.m5 {σ τ : Mem} {x f g c : Int} (h : aaP σ τ f g c) : aaP (mset σ (5, 0) 0 x) (mset τ (5, 0) 0 x) f g c := by
  obtain ⟨h1, h2, h3, h4, h5, h6, h7, h8⟩ := h
  have e : ∀ (ρ : Mem) (g k : Nat), g ≠ 5 → mset ρ (5, 0) 0 x (g, k) = ρ (g, k) := fun _ _ _ hg => m5_ne hg
  refine ⟨fun g k a b c => m5_eq (h1 g k a b c), m5_eq h2, ?_, ?_, ?_, ?_, m5_eq h7, m5_eq h8⟩
  · rw [e _ 0 1 (by decide), e _ 0 1 (by decide)]; exact h3
  · rw [e _ 0 2 (by decide), e _ 0 1 (by decide), e _ 0 2 (by decide)]; exact h4
  · rw [e _ 0 3 (by decide), e _ 0 1 (by decide), e _ 0 3 (by decide)]; exact h5
  · rw [e _ 6 2 (by decide), e _ 0 1 (by decide), e _ 6 2 (by decide)]; exact h6
theorem keepC.m5 {σ τ : Mem} {x : Int} {c : Int → Int} (h : keepC σ τ c) : keepC (mset σ (5, 0) 0 x) (mset τ (5, 0) 0 x) c := ⟨fun g k hg => m5_eq (h.1 g k hg), by rw [m5_ne (by decide)]; exact h.2.1, m5_eq h.2.2.1, m5_eq h.2.2.2⟩
theorem keepE.m5 {σ τ : Mem} {x s t : Int} (h : keepE σ τ s t) : keepE (mset σ (5, 0) 0 x) (mset τ (5, 0) 0 x) s t := ⟨fun g k hg => m5_eq (h.1 g k hg), m5_eq h.2.1, by rw [m5_ne (by decide)]; exact h.2.2.1, by rw [m5_ne (by decide)]; exact h.2.2.2⟩
theorem pushP.m5 {σ τ : Mem} {x : Int} (h : pushP σ τ) : pushP (mset σ (5, 0) 0 x) (mset τ (5, 0) 0 x) := by
  obtain ⟨h1, h2, h3, h4, h5⟩ := h
  have e : ∀ (ρ : Mem) (g k : Nat), g ≠ 5 → mset ρ (5, 0) 0 x (g, k) = ρ (g, k) := fun _ _ _ hg => m5_ne hg
  refine ⟨fun q hq => m5_eq (h1 q (by rw [e _ 3 0 (by decide)] at hq; exact hq)), ?_, ?_, ?_, ?_⟩
  · rw [e _ 3 0 (by decide), e _ 3 0 (by decide)]; exact h2
  · rw [e _ 3 1 (by decide), e _ 3 0 (by decide), e _ 6 8 (by decide), e _ 3 1 (by decide)]; exact h3
  · rw [e _ 3 2 (by decide), e _ 3 0 (by decide), e _ 6 9 (by decide), e _ 3 2 (by decide)]; exact h4
  · rw [e _ 3 0 (by decide), e _ 2 _ (by decide), e _ 6 2 (by decide)]; exact h5
theorem popP.m5 {σ τ : Mem} {x : Int} (h : popP σ τ) : popP (mset σ (5, 0) 0 x) (mset τ (5, 0) 0 x) := by
  obtain ⟨h1, h2, h3, h4, h5⟩ := h
  have e : ∀ (ρ : Mem) (g k : Nat), g ≠ 5 → mset ρ (5, 0) 0 x (g, k) = ρ (g, k) := fun _ _ _ hg => m5_ne hg
  refine ⟨fun g k a b => m5_eq (h1 g k a b), ?_, ?_, ?_, ?_⟩
  · rw [e _ 3 0 (by decide), e _ 3 0 (by decide)]; exact h2
  · rw [e _ 6 2 (by decide), e _ 0 1 (by decide), e _ 3 0 (by decide), e _ 2 _ (by decide), e _ 6 2 (by decide)]; exact h3
  · rw [e _ 6 8 (by decide), e _ 3 1 (by decide), e _ 3 0 (by decide)]; exact h4
  · rw [e _ 6 9 (by decide), e _ 3 2 (by decide), e _ 3 0 (by decide)]; exact h5

theorem st_addNode {σ τ υ : Mem} {e b : Int} (S : SIM σ) (p : wPost (PF_addNode σ) (XF_addNode σ) [(ISE, 1)] σ e τ) (q : PM_addNode τ b υ) : OKs υ e b := by
  have hN := S.2.1
  have hnum := S.num
  have hm := hnum.2.1.1
  rcases p with ⟨rfl, w, τ', p, rfl⟩ | ⟨E, hE, hk, rfl⟩
  · obtain ⟨hf, hlt, k, ha⟩ := p
    have e4 : ∀ j : Nat, mset τ' (5, 0) 0 (iI w).toInt (4, j) = σ (4, j) := fun j => (m5_ne (by decide)).trans (k.1 _ (fun e => by cases e))
    unfold PM_addNode at q
    simp only [e4] at q
    rcases q with ⟨q1, -, -⟩ | ⟨-, f, q2, q3, q4⟩
    · omega
    · have hS := SIM.node (S.m5 0 (iI w).toInt) (hf.m5 0 _) k.m5 f (by rw [e4]; exact q3)
      exact st_ch hS (f.g4 (by decide)) q2 (by omega)
  · obtain ⟨rfl, hA⟩ := hE
    simp [ISE, IOB, IAE] at hk
    subst hk
    rcases q with ⟨-, f, q2⟩ | ⟨q1, -⟩
    · exact st_no S f q2 (by decide)
    · omega
theorem st_addArc {σ τ υ : Mem} {e b : Int} {s t c : Int} (S : SIM σ) (p : wPost (PF_addArc σ s t c) (XF_addArc σ s t c) [(IOB, 1), (IAE, 2), (ISE, 3)] σ e τ) (q : PM_addArc τ s t c b υ) : OKs υ e b := by
  have hN := S.2.1
  have hnum := S.num
  have hm := hnum.2.1.1
  rcases p with ⟨rfl, w, τ', p, rfl⟩ | ⟨E, hE, hk, rfl⟩
  · obtain ⟨hf, hA, hlt, k, ha⟩ := p
    have e4 : ∀ j : Nat, mset τ' (5, 0) 0 (iI w).toInt (4, j) = σ (4, j) := fun j => (m5_ne (by decide)).trans (k.1 4 j (by decide) (by decide) (by decide))
    unfold PM_addArc at q
    simp only [e4] at q
    rcases q with ⟨q1, -, -⟩ | ⟨-, ⟨q1, -, -⟩ | ⟨-, ⟨q1, -, -⟩ | ⟨-, f, q2, q3, q4, q5, q6, q7⟩⟩⟩
    · omega
    · omega
    · omega
    · have hS := SIM.arc (S.m5 0 (iI w).toInt) (hf.m5 0 _) k.m5 (by rw [m5_ne (by decide)]; exact hlt) (f.g4 (by decide)) f (by rw [e4]; exact q3) (by rw [e4, e4]; exact q4) (by rw [e4, e4]; exact q5) (by rw [e4, e4]; exact q6)
      exact st_ch hS (f.g4 (by decide)) q2 (by omega)
  · rcases hE with ⟨rfl, hA⟩ | ⟨h1, h2, rfl, h3⟩ | ⟨h1, rfl, h2⟩
    · simp [ISE, IOB, IAE] at hk
      subst hk
      rcases q with ⟨-, f, q2⟩ | ⟨q1, -⟩
      · exact st_no S f q2 (by decide)
      · omega
    · simp [ISE, IOB, IAE] at hk
      subst hk
      rcases q with ⟨q1, -⟩ | ⟨-, ⟨-, f, q2⟩ | ⟨q1, -⟩⟩
      · omega
      · exact st_no S f q2 (by decide)
      · omega
    · simp [ISE, IOB, IAE] at hk
      subst hk
      rcases q with ⟨q1, -⟩ | ⟨-, ⟨q1, -⟩ | ⟨-, ⟨-, f, q2⟩ | ⟨q1, -⟩⟩⟩
      · omega
      · omega
      · exact st_no S f q2 (by decide)
      · omega
theorem st_setCapacity {σ τ υ : Mem} {e b : Int} {a c : Int} (S : SIM σ) (p : wPost (PF_setCapacity σ a c) (XF_setCapacity σ a c) [(IOB, 1), (IAE, 2)] σ e τ) (q : PM_setCapacity τ a c b υ) : OKs υ e b := by
  have hN := S.2.1
  have hnum := S.num
  have hm := hnum.2.1.1
  rcases p with ⟨rfl, w, τ', p, rfl⟩ | ⟨E, hE, hk, rfl⟩
  · obtain ⟨hf, k, hA, hc, ha⟩ := p
    have e4 : ∀ j : Nat, mset τ' (5, 0) 0 (iI w).toInt (4, j) = σ (4, j) := fun j => (m5_ne (by decide)).trans (k.1 4 j (by decide))
    unfold PM_setCapacity at q
    simp only [e4] at q
    rcases q with ⟨q1, -, -⟩ | ⟨-, ⟨q1, -, -⟩ | ⟨-, f, q2, q3, q4⟩⟩
    · omega
    · omega
    · have h6 := (hN.2.2.1 a hA.1 hA.2).2.2
      have hS := SIM.caps (S.m5 0 (iI w).toInt) (hf.m5 0 _) k.m5 f (fun j j0 j1 => by
        rw [m5_ne (by decide)] at j1
        rw [q3]
        unfold updC
        rw [(hN.2.2.1 j j0 j1).2.2])
      exact st_ch hS (f.g4 (by decide)) q2 (by omega)
  · rcases hE with ⟨rfl, hA⟩ | ⟨h1, rfl, h2⟩
    · simp [ISE, IOB, IAE] at hk
      subst hk
      rcases q with ⟨-, f, q2⟩ | ⟨q1, -⟩
      · exact st_no S f q2 (by decide)
      · omega
    · simp [ISE, IOB, IAE] at hk
      subst hk
      rcases q with ⟨q1, -⟩ | ⟨-, ⟨-, f, q2⟩ | ⟨q1, -⟩⟩
      · omega
      · exact st_no S f q2 (by decide)
      · omega
theorem st_scale {σ τ υ : Mem} {e b : Int} {v k : Int} (S : SIM σ) (p : wPost (PF_scale σ v k) (XF_scale σ v k) [(IOB, 1), (IAE, 2)] σ e τ) (q : PM_scale τ v k b υ) : OKs υ e b := by
  have hN := S.2.1
  have hnum := S.num
  have hm := hnum.2.1.1
  rcases p with ⟨rfl, w, τ', p, rfl⟩ | ⟨E, hE, hk, rfl⟩
  · obtain ⟨hf, k1, hA, hc, ha⟩ := p
    have e4 : ∀ j : Nat, mset τ' (5, 0) 0 (iI w).toInt (4, j) = σ (4, j) := fun j => (m5_ne (by decide)).trans (k1.1 4 j (by decide))
    unfold PM_scale mscI mscC mchF at q
    simp only [e4] at q
    rcases q with ⟨q1, -, -⟩ | ⟨-, ⟨q1, -, -⟩ | ⟨-, f, q2, q3, q4⟩⟩
    · omega
    · omega
    · have hS := SIM.caps (S.m5 0 (iI w).toInt) (hf.m5 0 _) k1.m5 f (fun j j0 j1 => by
        rw [m5_ne (by decide)] at j1
        rw [q3]
        unfold scC
        rw [hN.2.1, (hN.2.2.1 j j0 j1).2.2, (hN.2.2.1 j j0 j1).1])
      refine st_ch hS (f.g4 (by decide)) q2 ?_
      rw [ha, q4, hN.2.1]
      refine sm_cong fun j j0 j1 => ?_
      have := hN.2.2.1 j j0 (by omega)
      unfold chF
      rw [this.1, this.2.2]
  · rcases hE with ⟨rfl, hA⟩ | ⟨h1, rfl, h2⟩
    · simp [ISE, IOB, IAE] at hk
      subst hk
      rcases q with ⟨-, f, q2⟩ | ⟨q1, -⟩
      · exact st_no S f q2 (by decide)
      · omega
    · simp [ISE, IOB, IAE] at hk
      subst hk
      rcases q with ⟨q1, -⟩ | ⟨-, ⟨-, f, q2⟩ | ⟨q1, -⟩⟩
      · omega
      · exact st_no S f q2 (by decide)
      · omega
theorem st_setEnds {σ τ υ : Mem} {e b : Int} {s t : Int} (S : SIM σ) (p : wPost (PF_setEnds σ s t) (XF_setEnds σ s t) [(IOB, 1), (IAE, 2)] σ e τ) (q : PM_setEnds τ s t b υ) : OKs υ e b := by
  have hN := S.2.1
  have hnum := S.num
  have hm := hnum.2.1.1
  rcases p with ⟨rfl, w, τ', p, rfl⟩ | ⟨E, hE, hk, rfl⟩
  · obtain ⟨hf, k1, hA, h01, ha⟩ := p
    have e4 : ∀ j : Nat, mset τ' (5, 0) 0 (iI w).toInt (4, j) = σ (4, j) := fun j => (m5_ne (by decide)).trans (k1.1 4 j (by decide))
    unfold PM_setEnds at q
    simp only [e4] at q
    rcases q with ⟨q1, -, -⟩ | ⟨-, ⟨q1, -, -⟩ | ⟨-, f, q2, q3, q4, q5⟩⟩
    · omega
    · omega
    · have hS := SIM.ends (S.m5 0 (iI w).toInt) (hf.m5 0 _) k1.m5 f q3
      have e8 := hN.2.2.2.1
      have e9 := hN.2.2.2.2
      rw [e8, e9] at ha
      have hc := ha.trans q5.symm
      exact st_ch hS (f.g4 (by decide)) q2 (by omega)
  · rcases hE with ⟨rfl, hA⟩ | ⟨h1, h2, rfl, h3⟩
    · simp [ISE, IOB, IAE] at hk
      subst hk
      rcases q with ⟨-, f, q2⟩ | ⟨q1, -⟩
      · exact st_no S f q2 (by decide)
      · omega
    · simp [ISE, IOB, IAE] at hk
      subst hk
      rcases q with ⟨q1, -⟩ | ⟨-, ⟨-, f, q2⟩ | ⟨q1, -⟩⟩
      · omega
      · exact st_no S f q2 (by decide)
      · omega
theorem st_push {σ τ υ : Mem} {e b : Int} (S : SIM σ) (p : wPost (PF_push σ) (XF_push σ) [(ISE, 1)] σ e τ) (q : PM_push τ b υ) : OKs υ e b := by
  have hN := S.2.1
  have hnum := S.num
  have hm := hnum.2.1.1
  rcases p with ⟨rfl, w, τ', p, rfl⟩ | ⟨E, hE, hk, rfl⟩
  · obtain ⟨hf, hlt, k, ha⟩ := p
    have e4 : ∀ j : Nat, mset τ' (5, 0) 0 (iI w).toInt (4, j) = σ (4, j) := fun j => (m5_ne (by decide)).trans (k.1 _ (fun e => by
      simp only [List.mem_cons, List.not_mem_nil, or_false] at e
      rcases e with e | e | e | e <;> cases e))
    have hl := S.2.2.1.1
    rcases q with ⟨q1, -, -⟩ | ⟨-, ⟨ω, p1, p2⟩, q4⟩
    · rw [e4] at q1
      omega
    · rw [e4] at q4
      have hS := SIM.push (S.m5 0 (iI w).toInt) (hf.m5 0 _) (by rw [m5_ne (by decide)]; exact hlt) k.m5 p1 p2
      have h9 : ∀ x : Ix, x ≠ (4, 9) → υ x = ω x := fun x hx => by rw [p2, mset_id hx]
      refine st_ch (τ' := τ') (w := w) hS (fun g j hg => ?_) (by rw [h9 _ (by decide)]; exact p1.2.1) (by omega)
      rw [h9 _ (fun e => hg (congrArg Prod.fst e))]
      exact p1.1.g4 (by decide) g j hg
  · obtain ⟨rfl, hA⟩ := hE
    have hl := S.2.2.1.1
    simp [ISE, IOB, IAE] at hk
    subst hk
    rcases q with ⟨-, f, q2⟩ | ⟨q1, -⟩
    · exact st_no S f q2 (by decide)
    · omega
theorem st_pop {σ τ υ : Mem} {e b : Int} (S : SIM σ) (p : wPost (PF_pop σ) (XF_pop σ) [(ISE, 1)] σ e τ) (q : PM_pop τ b υ) : OKs υ e b := by
  have hN := S.2.1
  have hnum := S.num
  have hm := hnum.2.1.1
  rcases p with ⟨rfl, w, τ', p, rfl⟩ | ⟨E, hE, hk, rfl⟩
  · obtain ⟨hf, hlt, k, ha⟩ := p
    have e4 : ∀ j : Nat, mset τ' (5, 0) 0 (iI w).toInt (4, j) = σ (4, j) := fun j => (m5_ne (by decide)).trans (k.1 4 j (by decide) (fun e => by cases e))
    have hl := S.2.2.1.1
    rcases q with ⟨q1, -, -⟩ | ⟨-, p1, q4⟩
    · rw [e4] at q1
      omega
    · rw [e4] at q4
      have hS := SIM.pop (S.m5 0 (iI w).toInt) (hf.m5 0 _) (by rw [m5_ne (by decide)]; exact hlt) k.m5 p1
      exact st_ch hS (p1.1.g4 (by decide)) p1.2.1 (by omega)
  · obtain ⟨rfl, hA⟩ := hE
    have hl := S.2.2.1.1
    simp [ISE, IOB, IAE] at hk
    subst hk
    rcases q with ⟨-, f, q2⟩ | ⟨q1, -⟩
    · exact st_no S f q2 (by decide)
    · omega
theorem st_findCuts {σ τ υ : Mem} {e b : Int} (S : SIM σ) (p : wPost (PF_findCuts σ) (XF_findCuts σ) [(ISE, 1)] σ e τ) (q : PM_findCuts τ b υ) : OKs υ e b := by
  have hN := S.2.1
  have hnum := S.num
  have hm := hnum.2.1.1
  rcases p with ⟨rfl, w, τ', p, rfl⟩ | ⟨E, hE, hk, rfl⟩
  · obtain ⟨⟨hf, k1, k2, k3, kf⟩, hE, ha⟩ := p
    have e4 : ∀ j : Nat, mset τ' (5, 0) 0 (iI w).toInt (4, j) = σ (4, j) := fun j => (m5_ne (by decide)).trans (k1 4 j (by decide) (by decide))
    have e5 : ∀ g j : Nat, g ≠ 5 → mset τ' (5, 0) 0 (iI w).toInt (g, j) = τ' (g, j) := fun g j hg => m5_ne hg
    rcases q with ⟨q1, -⟩ | ⟨-, f, q2, q3, q4⟩
    · unfold mEn at q1
      simp only [e4] at q1
      exact (mEn_no q1 ((sim_ey hN).mp hE)).elim
    · unfold smM mcM at q4
      simp only [e4] at q4
      have g : g4 (mset τ' (5, 0) 0 (iI w).toInt) υ := (show frL [((4, 1) : Ix), (4, 14), (4, 15), (4, 16), (4, 17), (4, 18), (4, 19), (4, 20)] _ _ from f).g4 (by decide)
      obtain ⟨r1, r2⟩ := sim_fc hN hm kf q4
      have f4 : ∀ j : Nat, j ∉ [1, 14, 15, 16, 17, 18, 19, 20] → υ (4, j) = σ (4, j) := fun j hj => by
        rw [f (4, j) (fun e => hj (by simpa using e)), e4]
      have u3 : ∀ j : Nat, υ (3, j) = τ' (3, j) := fun j => by rw [g 3 j (by decide), e5 3 j (by decide)]
      have uo : ∀ g' j : Nat, g' ≠ 3 → g' ≠ 4 → g' < 5 → υ (g', j) = σ (g', j) := fun g' j a b c => by rw [g g' j b, e5 g' j (by omega), k1 g' j a (by omega)]
      have u6 : ∀ j : Nat, υ (6, j) = τ' (6, j) := fun j => by rw [g 6 j (by decide), e5 6 j (by decide)]
      have hS : SIM υ := by
        refine ⟨g.fn (hf.m5 0 _), ?_, ?_, ?_⟩
        · have hN' := hN
          unfold simN at hN' ⊢
          rw [uo 0 0 (by decide) (by decide) (by decide), uo 0 1 (by decide) (by decide) (by decide), uo 0 2 (by decide) (by decide) (by decide), uo 0 3 (by decide) (by decide) (by decide), u6, u6, u6, k3.1, k3.2.1, k3.2.2, f4 2 (by decide), f4 3 (by decide), f4 4 (by decide), f4 5 (by decide), f4 6 (by decide), f4 7 (by decide), f4 8 (by decide)]
          exact hN'
        · have hL := S.2.2.1
          have e' : ∀ v : Nat, υ (2, v) = σ (2, v) := fun v => uo 2 v (by decide) (by decide) (by decide)
          unfold simL at hL ⊢
          simp only [u3, k2 0 (by decide), k2 1 (by decide), k2 2 (by decide), uo 0 1 (by decide) (by decide) (by decide), f4 9 (by decide), f4 10 (by decide), f4 11 (by decide), f4 12 (by decide), f4 13 (by decide), e']
          exact hL
        · unfold simC
          rw [u3, u3]
          exact ⟨by omega, r2⟩
      exact st_ch hS g q2 (by omega)
  · obtain ⟨rfl, hE⟩ := hE
    simp [ISE, IOB, IAE] at hk
    subst hk
    rcases q with ⟨q1, f, q2⟩ | ⟨q1, -⟩
    · exact st_no S f q2 (by decide)
    · exact (mEn_no ((sim_en hN).mp hE) q1).elim
def OKd (υ : Mem) (k : Int) (b : UInt64) : Prop := SIM υ ∧ υ (4, 1) 0 = k ∧ (k = 0 → υ (5, 1) 0 = (b.toNat : Int)) ∧ (0 ≤ k ∧ k ≤ 3)
theorem st_utilization {σ τ υ : Mem} {e : Int} {b : UInt64} (S : SIM σ) (p : wPostD (PF_utilization σ) (XF_utilization σ) [(ISE, 1)] σ e τ) (q : PM_utilization τ b υ) : OKd υ e b := by
  have hN := S.2.1
  have hm := S.num.2.1.1
  rcases p with ⟨rfl, w, τ', p, rfl⟩ | ⟨E, hE, hk, rfl⟩
  · obtain ⟨hf, kq, hE, ha⟩ := p
    have e4 : ∀ j : Nat, mset τ' (5, 1) 0 (w.toNat : Int) (4, j) = σ (4, j) := kq.e41
    obtain ⟨f, q⟩ := q
    unfold mEn mEy utM outM mnM at q
    simp only [e4] at q
    rcases q with ⟨q1, -⟩ | ⟨-, q2, q3⟩
    · exact (mEn_no q1 ((sim_ey hN).mp hE)).elim
    · have hw : w = b := sim_ut hN hm ha q3
      exact ⟨((S.ask kq hf).m5 1 _).askM f, q2, fun _ => by rw [f (5, 1) (by decide), mset_same, hw], by decide⟩
  · obtain ⟨rfl, hE⟩ := hE
    simp [ISE, IOB, IAE] at hk
    subst hk
    obtain ⟨f, q⟩ := q
    rcases q with ⟨q1, q2⟩ | ⟨q1, -⟩
    · exact ⟨S.askM f, q2, fun h => by omega, by decide⟩
    · exact (mEn_no ((sim_en hN).mp hE) q1).elim
theorem st_nodeCount {σ τ υ : Mem} {z b : Int} (S : SIM σ) (p : τ = σ ∧ z = σ (0, 0) 0) (q : fq τ υ ∧ b = τ (4, 2) 0) : SIM υ ∧ z = b ∧ (0 ≤ z ∧ z ≤ 24) := by
  obtain ⟨rfl, p⟩ := p
  have h := S.num
  exact ⟨S.askM q.1, by rw [p, q.2, h.2.2.1], by rw [p]; exact h.1⟩
theorem st_arcCount {σ τ υ : Mem} {z b : Int} (S : SIM σ) (p : τ = σ ∧ z = σ (0, 1) 0) (q : fq τ υ ∧ b = τ (4, 3) 0) : SIM υ ∧ z = b ∧ (0 ≤ z ∧ z ≤ 80) := by
  obtain ⟨rfl, p⟩ := p
  have h := S.num
  exact ⟨S.askM q.1, by rw [p, q.2, h.2.2.2], by rw [p]; exact h.2.1⟩
theorem st_digest {σ τ υ : Mem} {z b : Int} (S : SIM σ) (p : fnOk τ ∧ keepQ σ τ ∧ dgP σ z) (q : fq τ υ ∧ υ (4, 1) 0 = 0 ∧ dgM τ b) : SIM υ ∧ z = b := by
  obtain ⟨hf, kq, ha⟩ := p
  have e4 : ∀ j : Nat, τ (4, j) = σ (4, j) := fun j => kq.1 4 j (by decide)
  obtain ⟨f, -, q3⟩ := q
  unfold dgM mEn mEy mnM smM gtM mcM at q3
  simp only [e4] at q3
  exact ⟨(S.ask kq hf).askM f, sim_dg S.2.1 S.num.2.1.1 S.2.2.1.1 ha q3⟩

