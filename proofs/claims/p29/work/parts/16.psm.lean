/-! FILLING; a push in the memory; who is active -/
def mfill (σ : Mem) (i : Ix) (n : Int) (x : Int) : Mem := fun q j => if q = i ∧ 0 ≤ j ∧ j < n then x else σ q j
theorem mfill_id {σ : Mem} {i q : Ix} {n x : Int} (h : q ≠ i) : mfill σ i n x q = σ q := funext fun _ => if_neg fun e => h e.1
theorem mfill_in {σ : Mem} {i : Ix} {n x j : Int} (h0 : 0 ≤ j) (h1 : j < n) : mfill σ i n x i j = x := if_pos ⟨rfl, h0, h1⟩
theorem mfill_0 {σ : Mem} {i : Ix} {x : Int} : mfill σ i 0 x = σ := funext fun q => funext fun j => if_neg fun e => by omega
theorem mfill_s {σ : Mem} {i : Ix} {n x : Int} (h : 0 ≤ n) : mset (mfill σ i n x) i n x = mfill σ i (n + 1) x := by
  funext q j
  unfold mset mfill
  by_cases e : q = i
  · by_cases e2 : j = n
    · rw [if_pos ⟨e, e2⟩, if_pos ⟨e, by omega, by omega⟩]
    · rw [if_neg (fun k => e2 k.2)]
      by_cases e3 : 0 ≤ j ∧ j < n
      · rw [if_pos ⟨e, e3.1, e3.2⟩, if_pos ⟨e, by omega, by omega⟩]
      · rw [if_neg (fun k => e3 k.2), if_neg (fun k => by omega)]
  · rw [if_neg (fun k => e k.1), if_neg (fun k => e k.1), if_neg (fun k => e k.1)]
theorem Fr.fill {b k : Nat} {L : List Nat} {σ : Mem} {n x : Int} (h : k ∈ L) (h3 : k ≠ 3 := by decide) : Fr b L σ (mfill σ (b + 6, k) n x) := ⟨fun g j hq => mfill_id (fun e => by
  cases e
  rcases hq with hq | hq
  · exact hq rfl
  · exact hq h), fun j _ => congrFun (mfill_id (fun e => h3 (by cases e; rfl))) j⟩
theorem psP_of {σ σ1 σ2 τ : Mem} {b : Nat} {a u w x : Int} (h1 : σ1 = mset σ (b + 6, 3) a (σ (b + 6, 3) a + if σ (0, 2) a = u then x else -x)) (h2 : mset σ1 (b + 6, 5) u (σ1 (b + 6, 5) u - x) = σ2) (h3 : mset σ2 (b + 6, 5) w (σ2 (b + 6, 5) w + x) = τ) (hw : otF σ a u = w) (hu : u ≠ w) (ha : a < σ (0, 1) 0) : psP σ τ b a u x := by
  have f1 : Fr b [3] σ σ1 := by rw [h1]; exact Fr.set3 (by decide) ha
  have f2 : Fr b [5] σ1 σ2 := by rw [← h2]; exact Fr.set (by decide)
  have f3 : Fr b [5] σ2 τ := by rw [← h3]; exact Fr.set (by decide)
  refine ⟨((f1.up (by decide)).tr (f2.up (by decide))).tr (f3.up (by decide)), fun j => ?_, fun j => ?_⟩
  · rw [f3.own 3, f2.own 3, h1, mset_at]
  · rw [hw, ← h3, mset_at]
    have e2 : ∀ j, σ2 (b + 6, 5) j = if j = u then σ (b + 6, 5) u - x else σ (b + 6, 5) j := fun j => by
      rw [← h2, mset_at, f1.own 5]
    by_cases e : j = w
    · rw [if_pos e, if_pos e, e2, if_neg (Ne.symm hu)]
    · rw [if_neg e, if_neg e, e2]
theorem pf_net {σ : Mem} {b : Nat} {N0 : (Int → Bool) → Int} {s t B : Int} (h : pfI σ b N0 s t B) : NetOk σ ∧ AdjOk σ ∧ FlOk σ b := h.1
theorem pf_hgt {σ : Mem} {b : Nat} {N0 : (Int → Bool) → Int} {s t B : Int} (h : pfI σ b N0 s t B) {v : Int} (hv : 0 ≤ v ∧ v < σ (0, 0) 0) : 0 ≤ σ (b + 6, 6) v ∧ σ (b + 6, 6) v ≤ 47 := by
  have h1 := h.2.2.2.2.2.2.2.2.1 v hv.1 hv.2
  have h2 := h.1.1.1
  omega
theorem pf_ends {σ : Mem} {b : Nat} {N0 : (Int → Bool) → Int} {s t B : Int} (h : pfI σ b N0 s t B) : (σ (b + 6, 11) 0 = s ∧ σ (b + 6, 12) 0 = t) ∧ (0 ≤ s ∧ s < σ (0, 0) 0) ∧ (0 ≤ t ∧ t < σ (0, 0) 0) ∧ s ≠ t ∧ 0 ≤ B ∧ B ≤ 100000000 := h.2.2.2.2.2.2.2.2.2
