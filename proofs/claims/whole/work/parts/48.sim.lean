/-! BOTH SIDES AGREE: the network -/
def simN (σ : Mem) : Prop := σ (0, 0) 0 = σ (4, 2) 0 ∧ σ (0, 1) 0 = σ (4, 3) 0 ∧ (∀ a, 0 ≤ a → a < σ (0, 1) 0 → σ (0, 2) a = σ (4, 4) a ∧ σ (0, 3) a = σ (4, 5) a ∧ σ (6, 2) a = σ (4, 6) a) ∧ σ (6, 8) 0 = σ (4, 7) 0 ∧ σ (6, 9) 0 = σ (4, 8) 0
theorem sim_mn {σ : Mem} (h : simN σ) (hm : 0 ≤ σ (0, 1) 0) {c c' : Int → Int} {s t v : Int} (hc : ∀ a, 0 ≤ a → a < σ (0, 1) 0 → c a = c' a) (k : mnS σ c s t v) : mnM σ c' s t v := by
  have e := h.2.1
  unfold mnM
  rw [← e]
  exact isMn_cong (fun a a0 a1 => ⟨(h.2.2.1 a a0 (by omega)).1.symm, (h.2.2.1 a a0 (by omega)).2.1.symm, (hc a a0 (by omega)).symm⟩) k
theorem sim_mc {σ : Mem} (h : simN σ) (hm : 0 ≤ σ (0, 1) 0) {X : Int → Bool} : mcS σ X ↔ mcM σ X := by
  have e := h.2.1
  unfold mcS mcM
  rw [← e, h.2.2.2.1, h.2.2.2.2]
  constructor
  · exact mcut_cong fun a a0 a1 => ⟨(h.2.2.1 a a0 (by omega)).1.symm, (h.2.2.1 a a0 (by omega)).2.1.symm, (h.2.2.1 a a0 (by omega)).2.2.symm⟩
  · exact mcut_cong fun a a0 a1 => ⟨(h.2.2.1 a a0 (by omega)).1, (h.2.2.1 a a0 (by omega)).2.1, (h.2.2.1 a a0 (by omega)).2.2⟩
theorem sim_mx {σ : Mem} (h : simN σ) (hm : 0 ≤ σ (0, 1) 0) {x z : Int} (k : mnS σ (σ (6, 2)) (σ (6, 8) 0) (σ (6, 9) 0) x) (r : mnM σ (σ (4, 6)) (σ (4, 7) 0) (σ (4, 8) 0) z) : x = z := by
  rw [h.2.2.2.1, h.2.2.2.2] at k
  exact isMn_one (sim_mn h hm (fun a a0 a1 => (h.2.2.1 a a0 a1).2.2) k) r
theorem sim_upd {σ : Mem} (h : simN σ) (hm : 0 ≤ σ (0, 1) 0) {a c x z : Int} (k : mnS σ (updC (σ (6, 2)) a c) (σ (6, 8) 0) (σ (6, 9) 0) x) (r : mnM σ (updC (σ (4, 6)) a c) (σ (4, 7) 0) (σ (4, 8) 0) z) : x = z := by
  rw [h.2.2.2.1, h.2.2.2.2] at k
  refine isMn_one (sim_mn h hm (fun j j0 j1 => ?_) k) r
  unfold updC
  rw [(h.2.2.1 j j0 j1).2.2]
theorem sim_wo {σ : Mem} (h : simN σ) (hm : 0 ≤ σ (0, 1) 0) {v x z : Int} (k : mnS σ (woC σ v (σ (0, 1) 0)) (σ (6, 8) 0) (σ (6, 9) 0) x) (r : mnM σ (woM σ v (σ (4, 3) 0)) (σ (4, 7) 0) (σ (4, 8) 0) z) : x = z := by
  rw [h.2.2.2.1, h.2.2.2.2] at k
  refine isMn_one (sim_mn h hm (fun j j0 j1 => ?_) k) r
  unfold woC woM
  rw [← h.2.1, (h.2.2.1 j j0 j1).1, (h.2.2.1 j j0 j1).2.1, (h.2.2.1 j j0 j1).2.2]
theorem sim_bw {σ : Mem} (h : simN σ) (hm : 0 ≤ σ (0, 1) 0) {s t x z : Int} (k : mnS σ (σ (6, 2)) s t x) (r : mnM σ (σ (4, 6)) s t z) : x = z := isMn_one (sim_mn h hm (fun a a0 a1 => (h.2.2.1 a a0 a1).2.2) k) r
theorem sim_sm {σ : Mem} (h : simN σ) (hm : 0 ≤ σ (0, 1) 0) {x : Int} : smP σ x ↔ smM σ x := by
  unfold smP smM
  refine and_congr Iff.rfl (forall_congr' fun v => imp_congr Iff.rfl (iff_congr Iff.rfl (forall_congr' fun X => imp_congr (sim_mc h hm) Iff.rfl)))
theorem sm_one {σ : Mem} {x z : Int} (k : smM σ x) (r : smM σ z) : x = z := bt_ext k.1.1 r.1.1 fun v hv => by
  have := (k.2 v hv).trans (r.2 v hv).symm
  cases p : bt x v <;> cases q : bt z v <;> simp_all
theorem sim_gt {σ : Mem} (h : simN σ) (hm : 0 ≤ σ (0, 1) 0) {x : Int} : gtP σ x ↔ gtM σ x := by
  unfold gtP gtM
  rw [h.1]
  refine and_congr Iff.rfl (forall_congr' fun v => imp_congr Iff.rfl (iff_congr Iff.rfl (and_congr Iff.rfl (exists_congr fun X => and_congr (sim_mc h hm) Iff.rfl))))
theorem gt_one {σ : Mem} {x z : Int} (k : gtM σ x) (r : gtM σ z) : x = z := bt_ext k.1.1 r.1.1 fun v hv => by
  have := (k.2 v hv).trans (r.2 v hv).symm
  cases p : bt x v <;> cases q : bt z v <;> simp_all
theorem sim_le {σ : Mem} (h : simN σ) (hm : 0 ≤ σ (0, 1) 0) {a x z : Int} (k : leS σ a x) (r : lfM σ a z) : x = z := by
  obtain ⟨F, F0, k1, k2, rfl⟩ := k
  obtain ⟨G, G0, r1, r2, rfl⟩ := r
  rw [sim_mx h hm k1 r1, sim_upd h hm k2 r2]
theorem sim_bt {σ : Mem} (h : simN σ) (hm : 0 ≤ σ (0, 1) 0) {a : Int} (ha : 0 ≤ a ∧ a < σ (0, 1) 0) : botS σ a ↔ btM σ a := by
  obtain ⟨e1, e2, e3⟩ := h.2.2.1 a ha.1 ha.2
  unfold botS btM
  rw [e1, e2, e3]
  exact and_congr Iff.rfl (exists_congr fun X => and_congr (sim_mc h hm) Iff.rfl)
/-- an arc that all minimum cuts have: with one more unit more can flow -/
theorem sim_li {σ : Mem} (h : simN σ) (hm : 0 ≤ σ (0, 1) 0) {a z : Int} (ha : 0 ≤ a ∧ a < σ (0, 1) 0) (r : liM σ a z) : z = 1 ↔ limS σ a := by
  obtain ⟨F, F1, r1, r2, r3, r4⟩ := r
  obtain ⟨e1, e2, e3⟩ := h.2.2.1 a ha.1 ha.2
  rw [r4]
  have hg : ∀ X : Int → Bool, gcp (σ (4, 3) 0).toNat (σ (4, 4)) (σ (4, 5)) (updC (σ (4, 6)) a (σ (4, 6) a + 1)) X = gcp (σ (4, 3) 0).toNat (σ (4, 4)) (σ (4, 5)) (σ (4, 6)) X + (if X (σ (4, 4) a) = true ∧ ¬ X (σ (4, 5) a) = true then 1 else 0) := fun X => by
    have key := sm_upd (fun j => if X (σ (4, 4) j) = true ∧ ¬ X (σ (4, 5) j) = true then σ (4, 6) j else 0) (i := a) (x := if X (σ (4, 4) a) = true ∧ ¬ X (σ (4, 5) a) = true then σ (4, 6) a + 1 else 0) ha.1 (n := (σ (4, 3) 0).toNat) (by have := h.2.1; omega)
    have e : gcp (σ (4, 3) 0).toNat (σ (4, 4)) (σ (4, 5)) (updC (σ (4, 6)) a (σ (4, 6) a + 1)) X = sm (fun j => if j = a then (if X (σ (4, 4) a) = true ∧ ¬ X (σ (4, 5) a) = true then σ (4, 6) a + 1 else 0) else if X (σ (4, 4) j) = true ∧ ¬ X (σ (4, 5) j) = true then σ (4, 6) j else 0) (σ (4, 3) 0).toNat := sm_cong fun j j0 j1 => by
      show (if X (σ (4, 4) j) = true ∧ ¬ X (σ (4, 5) j) = true then updC (σ (4, 6)) a (σ (4, 6) a + 1) j else 0) = _
      unfold updC
      by_cases q : j = a
      · rw [if_pos q, if_pos q, q]
      · rw [if_neg q, if_neg q]
    rw [e, key]
    unfold gcp
    split <;> omega
  constructor
  · intro g X hX
    have hX' := (sim_mc h hm).mp hX
    rw [e1, e2]
    have v := mcut_val r1 hX'
    have := r2.2 X hX'.1 hX'.2.1
    rw [hg, v] at this
    by_cases q : X (σ (4, 4) a) = true ∧ ¬ X (σ (4, 5) a) = true
    · exact q
    · rw [if_neg q] at this; omega
  · intro g
    obtain ⟨⟨Y, y1, y2, y3⟩, -⟩ := r2
    rw [hg] at y3
    have lo := r1.2 Y y1 y2
    by_cases q : gcp (σ (4, 3) 0).toNat (σ (4, 4)) (σ (4, 5)) (σ (4, 6)) Y = F
    · have hc : mcM σ Y := ⟨y1, y2, fun Z z1 z2 => by rw [q]; exact r1.2 Z z1 z2⟩
      have := g Y ((sim_mc h hm).mpr hc)
      rw [e1, e2] at this
      rw [if_pos this] at y3
      omega
    · have : (0 : Int) ≤ if Y (σ (4, 4) a) = true ∧ ¬ Y (σ (4, 5) a) = true then 1 else 0 := by split <;> decide
      omega
