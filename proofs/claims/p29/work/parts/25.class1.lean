/-! THE CLASS: what it answers about the maximum -/
theorem b_not {a b : Bool} (h : ¬ a = true) (k : ¬ b = true) : ¬ (a || b) = true := fun q => (Bool.or_eq_true a b ▸ q : a = true ∨ b = true).elim h k
theorem b_l {a b : Bool} (h : a = true) : (a || b) = true := by rw [h]; rfl
theorem b_r {a b : Bool} (h : b = true) : (a || b) = true := by rw [h, Bool.or_true]
theorem fnOk.net {σ : Mem} (h : fnOk σ) : NetOk σ := h.1.1.1
theorem fnOk.ends {σ : Mem} (h : fnOk σ) : endsNo σ 0 ∨ endsYes σ 0 := h.1.2.1
/-- the trial holds the capacities c and the ends s, t -/
def trP (σ υ : Mem) (c : Int → Int) (s t : Int) : Prop := mfOk υ 1 ∧ (∀ g k : Nat, g ≠ 7 → υ (g, k) = σ (g, k)) ∧ (∀ j, 0 ≤ j → j < 80 → υ (7, 2) j = c j) ∧ υ (7, 8) 0 = s ∧ υ (7, 9) 0 = t
theorem tr_cp {σ τ : Mem} (h : cpP σ τ) : trP σ τ (σ (6, 2)) (σ (6, 8) 0) (σ (6, 9) 0) := ⟨h.1, h.2.1, fun j a b => (h.2.2.1 j a b).1, h.2.2.2.1, h.2.2.2.2.1⟩
theorem tr_cc {σ υ τ : Mem} {c : Int → Int} {s t a x : Int} (h : trP σ υ c s t) (k : ccP υ τ 1 a x) : trP σ τ (updC c a x) s t := by
  obtain ⟨-, h2, h3, h4, h5⟩ := h
  obtain ⟨k1, k2, k3⟩ := k
  refine ⟨k1, fun g q hg => (fr1 k2 g q hg).trans (h2 g q hg), fun j j0 j1 => ?_, ?_, ?_⟩
  · refine (k3 j).trans ?_
    unfold updC
    split
    · rfl
    · exact h3 j j0 j1
  · exact (congrFun (k2.own 8) 0).trans h4
  · exact (congrFun (k2.own 9) 0).trans h5
theorem tr_eq {σ υ : Mem} {c c' : Int → Int} {s t : Int} (h : trP σ υ c s t) (e : ∀ j, 0 ≤ j → j < 80 → c j = c' j) : trP σ υ c' s t := ⟨h.1, h.2.1, fun j a b => (h.2.2.1 j a b).trans (e j a b), h.2.2.2.1, h.2.2.2.2⟩
theorem tr_ce {σ υ τ : Mem} {c : Int → Int} {s t s' t' z : Int} (h : trP σ υ c s t) (k : ceP υ τ 1 s' t' z) : trP σ τ c s' t' := by
  obtain ⟨-, h2, h3, h4, h5⟩ := h
  obtain ⟨k1, k2, ⟨k3, k4⟩, -⟩ := k
  refine ⟨k1, fun g q hg => (k2 g q (Or.inl hg)).trans (h2 g q hg), fun j j0 j1 => ?_, k3, k4⟩
  exact (congrFun (k2 7 2 (Or.inr (by decide))) j).trans (h3 j j0 j1)
theorem tr_ey {σ υ : Mem} {c : Int → Int} {s t : Int} (h : trP σ υ c s t) (hs : 0 ≤ s ∧ s < σ (0, 0) 0) (ht : 0 ≤ t ∧ t < σ (0, 0) 0) (hst : s ≠ t) : endsYes υ 1 := by
  show (0 ≤ υ (7, 8) 0 ∧ υ (7, 8) 0 < υ (0, 0) 0) ∧ (0 ≤ υ (7, 9) 0 ∧ υ (7, 9) 0 < υ (0, 0) 0) ∧ υ (7, 8) 0 ≠ υ (7, 9) 0
  rw [h.2.2.2.1, h.2.2.2.2, h.2.1 0 0 (by decide)]
  exact ⟨hs, ht, hst⟩
theorem tr_c8 {σ υ : Mem} {c : Int → Int} {s t : Int} (h : trP σ υ c s t) (hE : endsYes υ 1) (hc : ∀ j, 0 ≤ j → j < 80 → c j ≤ 1000000) : cut8 υ 1 := cut_of h.1.1.1 hE fun a a1 a2 => by
  have := h.1.1.1.2.1
  show υ (7, 2) a ≤ 1000000
  rw [h.2.2.1 a a1 (by omega)]
  exact hc a a1 (by omega)
theorem tr_gv {σ υ τ : Mem} {c : Int → Int} {s t z : Int} (h : trP σ υ c s t) (hf : fnOk σ) (k : stP υ τ 1 ∧ mfV τ 1 z ∧ mxB υ 1 (υ (7, 8) 0) (υ (7, 9) 0) z) : fnOk τ ∧ keepQ σ τ ∧ mnS σ c s t z := by
  obtain ⟨k1, -, k3⟩ := k
  have e : ∀ g q : Nat, g ≠ 7 → τ (g, q) = σ (g, q) := fun g q hg => (fr1 k1.2.2 g q hg).trans (h.2.1 g q hg)
  have hk := keepQ.o7 e
  refine ⟨hk.ok hf (mf_cong (fun g q hg => e g q (by omega)) (fun q => e 6 q (by decide)) hf.1), hk, ?_⟩
  have h1 : mxB υ 1 s t z := by rw [← h.2.2.2.1, ← h.2.2.2.2]; exact k3
  have hm := hf.net.2.1
  have e1 : υ (0, 1) = σ (0, 1) := h.2.1 0 1 (by decide)
  have e2 : υ (0, 2) = σ (0, 2) := h.2.1 0 2 (by decide)
  have e3 : υ (0, 3) = σ (0, 3) := h.2.1 0 3 (by decide)
  have h2 : isMn (υ (0, 1) 0).toNat (υ (0, 2)) (υ (0, 3)) (υ (7, 2)) s t z := isMn_of h1
  rw [e1, e2, e3] at h2
  exact isMn_cong (fun a a1 a2 => ⟨rfl, rfl, (h.2.2.1 a a1 (by omega)).symm⟩) h2
theorem cap_upd {σ : Mem} (h : capOk σ) {a x : Int} (hx : x ≤ 1000000) : ∀ j, 0 ≤ j → j < 80 → updC (σ (6, 2)) a x j ≤ 1000000 := fun j j0 j1 => by
  unfold updC
  split
  · exact hx
  · exact (h j j0 j1).2
/-- the capacities without a node -/
def woC (σ : Mem) (v i : Int) : Int → Int := fun j => if j < i ∧ (σ (0, 2) j = v ∨ σ (0, 3) j = v) then 0 else σ (6, 2) j
theorem wo_le {σ : Mem} (h : capOk σ) {v i : Int} : ∀ j, 0 ≤ j → j < 80 → woC σ v i j ≤ 1000000 := fun j j0 j1 => by
  unfold woC
  split
  · decide
  · exact (h j j0 j1).2
theorem wo_0 {σ υ : Mem} {v s t : Int} (h : trP σ υ (σ (6, 2)) s t) : trP σ υ (woC σ v 0) s t := tr_eq h fun j j0 j1 => (if_neg (fun q => by omega)).symm
theorem wo_y {σ υ τ : Mem} {v s t i : Int} (h : trP σ υ (woC σ v i) s t) (hv : σ (0, 2) i = v ∨ σ (0, 3) i = v) (k : ccP υ τ 1 i 0) : trP σ τ (woC σ v (i + 1)) s t := tr_eq (tr_cc h k) fun j j0 j1 => by
  unfold updC woC
  by_cases e : j = i
  · rw [if_pos e, if_pos ⟨by omega, by rw [e]; exact hv⟩]
  · rw [if_neg e]
    by_cases g : j < i
    · simp only [g, show j < i + 1 by omega, true_and]
    · rw [if_neg (fun q => g q.1), if_neg (fun q => by omega)]
theorem wo_n {σ υ : Mem} {v s t i : Int} (h : trP σ υ (woC σ v i) s t) (hv : ¬ (σ (0, 2) i = v ∨ σ (0, 3) i = v)) : trP σ υ (woC σ v (i + 1)) s t := tr_eq h fun j j0 j1 => by
  unfold woC
  by_cases e : j = i
  · rw [if_neg (fun q => by omega), if_neg (fun q => by rw [e] at q; exact hv q.2)]
  · by_cases g : j < i
    · simp only [g, show j < i + 1 by omega, true_and]
    · rw [if_neg (fun q => g q.1), if_neg (fun q => by omega)]
theorem ends_of {σ : Mem} (h : endsYes σ 0) : (0 ≤ σ (6, 8) 0 ∧ σ (6, 8) 0 < σ (0, 0) 0) ∧ (0 ≤ σ (6, 9) 0 ∧ σ (6, 9) 0 < σ (0, 0) 0) ∧ σ (6, 8) 0 ≠ σ (6, 9) 0 := h
/-- after settling -/
theorem st_keep {σ τ : Mem} (hf : fnOk σ) (h : stP σ τ 0) : fnOk τ ∧ keepQ σ τ := ⟨(keepQ.fr0 h.2.2).ok hf h.1, keepQ.fr0 h.2.2⟩
theorem st_mc {σ τ : Mem} (h : stP σ τ 0) {X : Int → Bool} (h1 : X (σ (6, 8) 0) = true) (h2 : ¬ X (σ (6, 9) 0) = true) : clo τ 0 X ↔ mcS σ X := by
  obtain ⟨F, hF0, hV⟩ := h.1.2.2.1
  have hs := (h.1.2.2.2.2.2.1 h.2.1).2
  have e1 : τ (0, 1) = σ (0, 1) := h.2.2.of 0 1
  have e2 : τ (0, 2) = σ (0, 2) := h.2.2.of 0 2
  have e3 : τ (0, 3) = σ (0, 3) := h.2.2.of 0 3
  have e4 : τ (6, 2) = σ (6, 2) := h.2.2.own 2
  have e8 : τ (6, 8) = σ (6, 8) := h.2.2.own 8
  have e9 : τ (6, 9) = σ (6, 9) := h.2.2.own 9
  have key : X (τ (6, 8) 0) = true → ¬ X (τ (6, 9) 0) = true → (clo τ 0 X ↔ mcut (τ (0, 1) 0).toNat (τ (0, 2)) (τ (0, 3)) (τ (6, 2)) (τ (6, 8) 0) (τ (6, 9) 0) X) := fun a b => mc_iff h.1.1.1 h.1.1.2.2 hV hs a b
  rw [e1, e2, e3, e4, e8, e9] at key
  exact key h1 h2
theorem st_shut {σ τ : Mem} (h : stP σ τ 0) : ∃ X : Int → Bool, X (σ (6, 8) 0) = true ∧ ¬ X (σ (6, 9) 0) = true ∧ clo τ 0 X := by
  have hs : shut τ 0 := (h.1.2.2.2.2.2.1 h.2.1).2
  have e8 : τ (6, 8) = σ (6, 8) := h.2.2.own 8
  have e9 : τ (6, 9) = σ (6, 9) := h.2.2.own 9
  obtain ⟨X, a, b, c⟩ := hs
  exact ⟨X, by rw [← e8]; exact a, by rw [← e9]; exact b, c⟩
/-- the smallest minimum cut, the greatest one -/
def smP (σ : Mem) (z : Int) : Prop := mk24 z ∧ ∀ v, 0 ≤ v → (bt z v = true ↔ ∀ X, mcS σ X → X v = true)
def gtP (σ : Mem) (z : Int) : Prop := mk24 z ∧ ∀ v, 0 ≤ v → (bt z v = true ↔ v < σ (0, 0) 0 ∧ ∃ X, mcS σ X ∧ X v = true)
theorem sm_no {σ τ : Mem} {z : Int} (hE : endsYes σ 0) (h : stP σ τ 0) (k : rcP τ 0 (σ (6, 8) 0) z) : ¬ bt z (σ (6, 9) 0) = true := by
  obtain ⟨S, s1, s2, s3⟩ := st_shut h
  exact fun q => s2 (k.2.2.2 S s3 s1 _ (ends_of hE).2.1.1 q)
theorem sm_of {σ τ : Mem} {z : Int} (hE : endsYes σ 0) (h : stP σ τ 0) (k : rcP τ 0 (σ (6, 8) 0) z) : smP σ z := by
  refine ⟨k.1, fun v hv => ⟨fun q X hX => ?_, fun q => ?_⟩⟩
  · exact k.2.2.2 X ((st_mc h hX.1 hX.2.1).mpr hX) hX.1 v hv q
  · exact q _ ((st_mc h k.2.1 (sm_no hE h k)).mp k.2.2.1)
theorem gt_of {σ τ : Mem} {z : Int} (hE : endsYes σ 0) (h : stP σ τ 0) (k : gmP τ 0 (σ (6, 9) 0) (σ (0, 0) 0) z) : gtP σ z := by
  refine ⟨k.1, fun v hv => ?_⟩
  rw [k.2 v hv]
  constructor
  · rintro ⟨h1, X, x1, x2, x3⟩
    obtain ⟨S, s1, s2, s3⟩ := st_shut h
    refine ⟨h1, fun w => S w || X w, ?_, ?_⟩
    · refine (st_mc h ?_ ?_).mp (clo_or s3 x1)
      · show (S _ || X _) = true
        rw [s1]; rfl
      · show ¬ (S _ || X _) = true
        rw [Bool.or_eq_true]
        rintro (q | q)
        · exact s2 q
        · exact x3 q
    · show (S _ || X _) = true
      rw [x2, Bool.or_true]
  · rintro ⟨h1, X, x1, x2⟩
    exact ⟨h1, X, (st_mc h x1.1 x1.2.1).mpr x1, x2, x1.2.1⟩
/-- an arc that every minimum cut has, one that some has -/
theorem lim_of {σ τ : Mem} {a z q : Int} (hE : endsYes σ 0) (h : stP σ τ 0) (ha : 0 ≤ a ∧ a < σ (0, 1) 0) (hN : NetOk σ) (k : rcP τ 0 (σ (6, 8) 0) z) (k2 : rcP τ 0 (σ (0, 3) a) q) : (bt z (σ (0, 2) a) = true ∧ bt q (σ (6, 9) 0) = true) ↔ ∀ X, mcS σ X → X (σ (0, 2) a) = true ∧ ¬ X (σ (0, 3) a) = true := by
  have hn := hN.2.2 a ha.1 ha.2
  have hs := (sm_of hE h k).2 _ hn.1.1
  constructor
  · rintro ⟨h1, h2⟩ X hX
    exact ⟨hs.mp h1 X hX, fun h3 => hX.2.1 (k2.2.2.2 X ((st_mc h hX.1 hX.2.1).mpr hX) h3 _ (ends_of hE).2.1.1 h2)⟩
  · intro h1
    refine ⟨hs.mpr fun X hX => (h1 X hX).1, ?_⟩
    by_cases e : bt q (σ (6, 9) 0) = true
    · exact e
    · obtain ⟨S, s1, s2, s3⟩ := st_shut h
      have := h1 (fun w => S w || bt q w) ((st_mc h (X := fun w => S w || bt q w) (b_l s1) (b_not s2 e)).mp (clo_or s3 k2.2.2.1))
      exact absurd (b_r k2.2.1) this.2
theorem bot_of {σ τ : Mem} {a z q : Int} (hE : endsYes σ 0) (h : stP σ τ 0) (ha : 0 ≤ a ∧ a < σ (0, 1) 0) (hN : NetOk σ) (k : rcP τ 0 (σ (6, 8) 0) z) (k2 : rcP τ 0 (σ (0, 2) a) q) : (¬ bt (oI z q) (σ (0, 3) a) = true ∧ ¬ bt (oI z q) (σ (6, 9) 0) = true) ↔ ∃ X, mcS σ X ∧ X (σ (0, 2) a) = true ∧ ¬ X (σ (0, 3) a) = true := by
  have hn := hN.2.2 a ha.1 ha.2
  rw [bt_o, bt_o]
  constructor
  · rintro ⟨h1, h2⟩
    exact ⟨fun w => bt z w || bt q w, (st_mc h (X := fun w => bt z w || bt q w) (b_l k.2.1) h2).mp (clo_or k.2.2.1 k2.2.2.1), b_r k2.2.1, h1⟩
  · rintro ⟨X, x1, x2, x3⟩
    have hc := (st_mc h x1.1 x1.2.1).mpr x1
    have i1 := k.2.2.2 X hc x1.1
    have i2 := k2.2.2.2 X hc x2
    exact ⟨b_not (fun g => x3 (i1 _ hn.2.1.1 g)) (fun g => x3 (i2 _ hn.2.1.1 g)), b_not (fun g => x1.2.1 (i1 _ (ends_of hE).2.1.1 g)) (fun g => x1.2.1 (i2 _ (ends_of hE).2.1.1 g))⟩
/-! what a change keeps -/
def keepC (σ τ : Mem) (c : Int → Int) : Prop := (∀ g k : Nat, g < 6 → τ (g, k) = σ (g, k)) ∧ τ (6, 2) = c ∧ τ (6, 8) = σ (6, 8) ∧ τ (6, 9) = σ (6, 9)
theorem keepC.ok {σ τ : Mem} {c : Int → Int} (k : keepC σ τ c) (h : fnOk σ) (hm : mfOk τ 0) (hc : ∀ a, 0 ≤ a → a < 80 → 0 ≤ c a ∧ c a ≤ 1000000) : fnOk τ := by
  refine ⟨hm, ?_, ?_, ?_⟩
  · unfold capOk
    rw [k.2.1]
    exact hc
  · have := h.2.2.1
    unfold lvOk at this ⊢
    have e : ∀ v : Nat, τ (2, v) = σ (2, v) := fun v => k.1 2 v (by decide)
    simp only [k.1 3 0 (by decide), k.1 3 1 (by decide), k.1 3 2 (by decide), k.1 0 0 (by decide), e]
    exact this
  · have := h.2.2.2
    unfold cuOk at this ⊢
    rw [k.1 3 4 (by decide)]
    exact this
theorem cc_keep {σ τ : Mem} {a c : Int} (hf : fnOk σ) (h : ccP σ τ 0 a c) (hc : 0 ≤ c ∧ c ≤ 1000000) : fnOk τ ∧ keepC σ τ (updC (σ (6, 2)) a c) := by
  have k : keepC σ τ (updC (σ (6, 2)) a c) := ⟨fun g q hg => h.2.1.1 g q (Or.inl (by omega)), funext h.2.2, h.2.1.own 8, h.2.1.own 9⟩
  refine ⟨k.ok hf h.1 fun j j0 j1 => ?_, k⟩
  unfold updC
  split
  · exact hc
  · exact hf.2.1 j j0 j1




set_option maxHeartbeats 4000000 in
set_option maxRecDepth 100000 in
theorem c_X6_setCapacity (l : Launch) (D : va_G) (cs : Nat → ClassId) (ad : Ix → Nat) (hap : Apart idsF ad) (hl : l.stackTraces = false) {σ : Mem} (h : fnOk σ) {a c : Int} (ha : rg a) (hc : rg c) (sz : Nat) : CXI l D cs idsF ad yX6_setCapacity cX6_setCapacity 4 .int 7 8 48 sz [(.ref (ad (3, 7))), (jI a), (jI c)] σ (fun z τ => fnOk τ ∧ keepC σ τ (updC (σ (6, 2)) a c) ∧ (0 ≤ a ∧ a < σ (0, 1) 0) ∧ (0 ≤ c ∧ c ≤ 1000000) ∧ z = σ (6, 2) a) ((fun E => (E = IOB ∧ ¬ (0 ≤ a ∧ a < σ (0, 1) 0)) ∨ ((0 ≤ a ∧ a < σ (0, 1) 0) ∧ E = IAE ∧ ¬ (0 ≤ c ∧ c ≤ 1000000)))) := by
  refine CXI.of RX6 hl hap idsF_nd (by decide) rfl (Nat.le_of_ble_eq_true rfl) ?_
  intro pg ev s0 mi av bl mt cd X K T hr
  have hN := h.net
  have hn := hN.1
  have hm := hN.2.1
  refine zr_aloadn X dX6_setCapacity_0 rfl ?_
  refine zr_iloadn X dX6_setCapacity_1 rfl ?_
  refine zr_xcallVV X K T (q := (RX6, TX6, 5)) (st := []) (fun sz => c_X6_requireArc l D cs ad hap hl (σ := σ) hN (v := a) ha sz) ⟨tw_199, tw_201, tp_0, tw_1, tw_202⟩ dc_X6_requireArc mF_3_7 rfl rfl rfl rfl rfl (Nat.le_of_ble_eq_true rfl) (by decide) dX6_setCapacity_2 ⟨by decide, by decide⟩ (fun E h => Or.inl h) ?_
  intro τ_ hp_
  obtain ⟨hτ_, hA⟩ := hp_
  subst τ_
  refine zr_iloadn X dX6_setCapacity_5 rfl ?_
  refine zr_xcallSV X K T (st := []) (fun sz => c_X6_requireCapacity l D cs ad hap hl (σ := σ) (v := c) hc sz) ⟨tw_271, tw_272, tw_1, tw_273⟩ dc_X6_requireCapacity rfl rfl (Nat.le_of_ble_eq_true rfl) (by decide) dX6_setCapacity_6 ⟨by decide, by decide⟩ (fun E h => Or.inr ⟨hA, h⟩) ?_
  intro τ_ hp_
  obtain ⟨hτ_, hC⟩ := hp_
  subst τ_
  refine zr_aloadn X dX6_setCapacity_9 rfl ?_
  refine zr_get X K (C := RX6) (T := TX6) (N := 5) (k := 1) mF_3_7 rfl rfl ti_6 (by decide) rfl tw_180 rfl dX6_setCapacity_10 ?_
  refine zr_getN X K (v := (.ref (ad (6, 1)))) (C := RX3) (T := TX3) (N := 6) (k := 1) mF_6_0 rfl rfl ti_3 (by decide) rfl tn_124 rfl dX6_setCapacity_13 ?_
  refine zr_getN X K (v := (.ref (ad (6, 2)))) (C := RX1) (T := TX1) (N := 3) (k := 1) mF_6_1 rfl rfl ti_1 (by decide) rfl tn_82 rfl dX6_setCapacity_16 ?_
  refine zr_iloadn X dX6_setCapacity_19 rfl ?_
  refine zr_iald X K (n := 80) mF_6_2 rfl (by decide) (by omega) dX6_setCapacity_20 ?_
  refine zr_istoren X dX6_setCapacity_21 (by decide) rfl ?_
  refine zr_aloadn X dX6_setCapacity_22 rfl ?_
  refine zr_get X K (C := RX6) (T := TX6) (N := 5) (k := 1) mF_3_7 rfl rfl ti_6 (by decide) rfl tw_180 rfl dX6_setCapacity_23 ?_
  refine zr_iloadn X dX6_setCapacity_26 rfl ?_
  refine zr_iloadn X dX6_setCapacity_27 rfl ?_
  refine zr_callNV X K (q := (RX3, TX3, 6)) (st := []) (c_X3_changeCapacity l D cs ad hap (b := 0) (by decide) (σ := σ) h.1 (a := a) (c := c) hA ⟨hC.1, by omega⟩) ⟨tn_291, tw_293, tp_2, tw_3, tw_294⟩ dc_X3_changeCapacity mF_6_0 rfl rfl rfl rfl rfl (Nat.le_of_ble_eq_true rfl) (by decide) dX6_setCapacity_28 ?_
  intro τ hcc
  refine zr_iloadn X dX6_setCapacity_31 rfl ?_
  refine zr_xiret X ⟨by decide, by decide⟩ hr dX6_setCapacity_32 ?_
  have hk := cc_keep h hcc hC
  exact ⟨hk.1, hk.2, hA, hC, rfl⟩

set_option maxHeartbeats 4000000 in
set_option maxRecDepth 100000 in
theorem c_X6_maximum (l : Launch) (D : va_G) (cs : Nat → ClassId) (ad : Ix → Nat) (hap : Apart idsF ad) (hl : l.stackTraces = false) {σ : Mem} (h : fnOk σ) (sz : Nat) : CXI l D cs idsF ad yX6_maximum cX6_maximum 1 .int 7 8 48 sz [(.ref (ad (3, 7)))] σ (fun z τ => fnOk τ ∧ keepQ σ τ ∧ endsYes σ 0 ∧ mnS σ (σ (6, 2)) (σ (6, 8) 0) (σ (6, 9) 0) z) ((fun E => E = ISE ∧ endsNo σ 0)) := by
  refine CXI.of RX6 hl hap idsF_nd (by decide) rfl (Nat.le_of_ble_eq_true rfl) ?_
  intro pg ev s0 mi av bl mt cd X K T hr
  have hN := h.net
  have hn := hN.1
  have hm := hN.2.1
  refine zr_aloadn X dX6_maximum_0 rfl ?_
  refine zr_xcallVV X K T (q := (RX6, TX6, 5)) (st := []) (fun sz => c_X6_requireEnds l D cs ad hap hl (σ := σ) hN h.ends sz) ⟨tw_382, tw_384, tp_16, tw_1, tw_385⟩ dc_X6_requireEnds mF_3_7 rfl rfl rfl rfl rfl (Nat.le_of_ble_eq_true rfl) (by decide) dX6_maximum_1 ⟨by decide, by decide⟩ (fun E h => h) ?_
  intro τ_ hp_
  obtain ⟨hτ_, hEy⟩ := hp_
  subst τ_
  refine zr_aloadn X dX6_maximum_4 rfl ?_
  refine zr_get X K (C := RX6) (T := TX6) (N := 5) (k := 1) mF_3_7 rfl rfl ti_6 (by decide) rfl tw_180 rfl dX6_maximum_5 ?_
  refine zr_callNI X K (q := (RX3, TX3, 6)) (st := []) (c_X3_greatestValue l D cs ad hap (b := 0) (by decide) (σ := σ) h.1 hEy (cut_0 h hEy)) ⟨tn_406, tw_408, tp_18, tw_3, tw_409⟩ dc_X3_greatestValue mF_6_0 rfl rfl rfl rfl rfl (Nat.le_of_ble_eq_true rfl) (by decide) dX6_maximum_8 ?_
  intro z τ hgv
  refine zr_xiret X ⟨by decide, by decide⟩ hr dX6_maximum_11 ?_
  have hk := st_keep h hgv.1
  exact ⟨hk.1, hk.2, hEy, isMn_of hgv.2.2⟩

set_option maxHeartbeats 4000000 in
set_option maxRecDepth 100000 in
theorem c_X6_maximumWith (l : Launch) (D : va_G) (cs : Nat → ClassId) (ad : Ix → Nat) (hap : Apart idsF ad) (hl : l.stackTraces = false) {σ : Mem} (h : fnOk σ) {a c : Int} (ha : rg a) (hc : rg c) (sz : Nat) : CXI l D cs idsF ad yX6_maximumWith cX6_maximumWith 3 .int 7 8 48 sz [(.ref (ad (3, 7))), (jI a), (jI c)] σ (fun z τ => fnOk τ ∧ keepQ σ τ ∧ endsYes σ 0 ∧ (0 ≤ a ∧ a < σ (0, 1) 0) ∧ (0 ≤ c ∧ c ≤ 1000000) ∧ mnS σ (updC (σ (6, 2)) a c) (σ (6, 8) 0) (σ (6, 9) 0) z) ((fun E => (E = ISE ∧ endsNo σ 0) ∨ (endsYes σ 0 ∧ E = IOB ∧ ¬ (0 ≤ a ∧ a < σ (0, 1) 0)) ∨ (endsYes σ 0 ∧ (0 ≤ a ∧ a < σ (0, 1) 0) ∧ E = IAE ∧ ¬ (0 ≤ c ∧ c ≤ 1000000)))) := by
  refine CXI.of RX6 hl hap idsF_nd (by decide) rfl (Nat.le_of_ble_eq_true rfl) ?_
  intro pg ev s0 mi av bl mt cd X K T hr
  have hN := h.net
  have hn := hN.1
  have hm := hN.2.1
  refine zr_aloadn X dX6_maximumWith_0 rfl ?_
  refine zr_xcallVV X K T (q := (RX6, TX6, 5)) (st := []) (fun sz => c_X6_requireEnds l D cs ad hap hl (σ := σ) hN h.ends sz) ⟨tw_382, tw_384, tp_16, tw_1, tw_385⟩ dc_X6_requireEnds mF_3_7 rfl rfl rfl rfl rfl (Nat.le_of_ble_eq_true rfl) (by decide) dX6_maximumWith_1 ⟨by decide, by decide⟩ (fun E h => Or.inl h) ?_
  intro τ_ hp_
  obtain ⟨hτ_, hEy⟩ := hp_
  subst τ_
  refine zr_aloadn X dX6_maximumWith_4 rfl ?_
  refine zr_iloadn X dX6_maximumWith_5 rfl ?_
  refine zr_xcallVV X K T (q := (RX6, TX6, 5)) (st := []) (fun sz => c_X6_requireArc l D cs ad hap hl (σ := σ) hN (v := a) ha sz) ⟨tw_199, tw_201, tp_0, tw_1, tw_202⟩ dc_X6_requireArc mF_3_7 rfl rfl rfl rfl rfl (Nat.le_of_ble_eq_true rfl) (by decide) dX6_maximumWith_6 ⟨by decide, by decide⟩ (fun E h => Or.inr (Or.inl ⟨hEy, h⟩)) ?_
  intro τ_ hp_
  obtain ⟨hτ_, hA⟩ := hp_
  subst τ_
  refine zr_iloadn X dX6_maximumWith_9 rfl ?_
  refine zr_xcallSV X K T (st := []) (fun sz => c_X6_requireCapacity l D cs ad hap hl (σ := σ) (v := c) hc sz) ⟨tw_271, tw_272, tw_1, tw_273⟩ dc_X6_requireCapacity rfl rfl (Nat.le_of_ble_eq_true rfl) (by decide) dX6_maximumWith_10 ⟨by decide, by decide⟩ (fun E h => Or.inr (Or.inr ⟨hEy, hA, h⟩)) ?_
  intro τ_ hp_
  obtain ⟨hτ_, hC⟩ := hp_
  subst τ_
  refine zr_aloadn X dX6_maximumWith_13 rfl ?_
  refine zr_get X K (C := RX6) (T := TX6) (N := 5) (k := 2) mF_3_7 rfl rfl ti_6 (by decide) rfl tw_181 rfl dX6_maximumWith_14 ?_
  refine zr_aloadn X dX6_maximumWith_17 rfl ?_
  refine zr_get X K (C := RX6) (T := TX6) (N := 5) (k := 1) mF_3_7 rfl rfl ti_6 (by decide) rfl tw_180 rfl dX6_maximumWith_18 ?_
  refine zr_callNV X K (q := (RX3, TX3, 6)) (st := []) (c_X3_copy l D cs ad hap (σ := σ) h.1) ⟨tn_419, tw_421, tp_20, tw_3, tw_422⟩ dc_X3_copy mF_7_0 rfl rfl rfl rfl rfl (Nat.le_of_ble_eq_true rfl) (by decide) dX6_maximumWith_21 ?_
  intro υ hcp
  have ht0 := tr_cp hcp
  refine zr_aloadn X dX6_maximumWith_24 rfl ?_
  refine zr_get X K (C := RX6) (T := TX6) (N := 5) (k := 2) mF_3_7 rfl rfl ti_6 (by decide) rfl tw_181 rfl dX6_maximumWith_25 ?_
  refine zr_iloadn X dX6_maximumWith_28 rfl ?_
  refine zr_iloadn X dX6_maximumWith_29 rfl ?_
  refine zr_callNV X K (q := (RX3, TX3, 6)) (st := []) (c_X3_changeCapacity l D cs ad hap (b := 1) (by decide) (σ := υ) ht0.1 (a := a) (c := c) (by rw [ht0.2.1 0 1 (by decide)]; exact hA) ⟨hC.1, by omega⟩) ⟨tn_291, tw_293, tp_2, tw_3, tw_294⟩ dc_X3_changeCapacity mF_7_0 rfl rfl rfl rfl rfl (Nat.le_of_ble_eq_true rfl) (by decide) dX6_maximumWith_30 ?_
  intro ω hcc
  have ht1 := tr_cc ht0 hcc
  have hEt := tr_ey ht1 (ends_of hEy).1 (ends_of hEy).2.1 (ends_of hEy).2.2
  have hct := tr_c8 ht1 hEt (cap_upd h.2.1 hC.2)
  refine zr_aloadn X dX6_maximumWith_33 rfl ?_
  refine zr_get X K (C := RX6) (T := TX6) (N := 5) (k := 2) mF_3_7 rfl rfl ti_6 (by decide) rfl tw_181 rfl dX6_maximumWith_34 ?_
  refine zr_callNI X K (q := (RX3, TX3, 6)) (st := []) (c_X3_greatestValue l D cs ad hap (b := 1) (by decide) (σ := ω) ht1.1 hEt hct) ⟨tn_406, tw_408, tp_18, tw_3, tw_409⟩ dc_X3_greatestValue mF_7_0 rfl rfl rfl rfl rfl (Nat.le_of_ble_eq_true rfl) (by decide) dX6_maximumWith_37 ?_
  intro z τ hgv
  refine zr_xiret X ⟨by decide, by decide⟩ hr dX6_maximumWith_40 ?_
  have hk := tr_gv ht1 h hgv
  exact ⟨hk.1, hk.2.1, hEy, hA, hC, hk.2.2⟩


set_option maxHeartbeats 4000000 in
set_option maxRecDepth 100000 in
theorem c_X6_maximumBetween (l : Launch) (D : va_G) (cs : Nat → ClassId) (ad : Ix → Nat) (hap : Apart idsF ad) (hl : l.stackTraces = false) {σ : Mem} (h : fnOk σ) {s t : Int} (hs : rg s) (ht : rg t) (sz : Nat) : CXI l D cs idsF ad yX6_maximumBetween cX6_maximumBetween 3 .int 7 8 48 sz [(.ref (ad (3, 7))), (jI s), (jI t)] σ (fun z τ => fnOk τ ∧ keepQ σ τ ∧ ((0 ≤ s ∧ s < σ (0, 0) 0) ∧ (0 ≤ t ∧ t < σ (0, 0) 0) ∧ s ≠ t) ∧ mnS σ (σ (6, 2)) s t z) ((fun E => (E = IOB ∧ ¬ ((0 ≤ s ∧ s < σ (0, 0) 0) ∧ (0 ≤ t ∧ t < σ (0, 0) 0))) ∨ ((0 ≤ s ∧ s < σ (0, 0) 0) ∧ (0 ≤ t ∧ t < σ (0, 0) 0) ∧ E = IAE ∧ s = t))) := by
  refine CXI.of RX6 hl hap idsF_nd (by decide) rfl (Nat.le_of_ble_eq_true rfl) ?_
  intro pg ev s0 mi av bl mt cd X K T hr
  have hN := h.net
  have hn := hN.1
  have hm := hN.2.1
  refine zr_aloadn X dX6_maximumBetween_0 rfl ?_
  refine zr_iloadn X dX6_maximumBetween_1 rfl ?_
  refine zr_xcallVV X K T (q := (RX6, TX6, 5)) (st := []) (fun sz => c_X6_requireNode l D cs ad hap hl (σ := σ) hN (v := s) hs sz) ⟨tw_350, tw_352, tp_14, tw_1, tw_353⟩ dc_X6_requireNode mF_3_7 rfl rfl rfl rfl rfl (Nat.le_of_ble_eq_true rfl) (by decide) dX6_maximumBetween_2 ⟨by decide, by decide⟩ (fun E h => Or.inl ⟨h.1, fun q => h.2 q.1⟩) ?_
  intro τ_ hp_
  obtain ⟨hτ_, hS⟩ := hp_
  subst τ_
  refine zr_aloadn X dX6_maximumBetween_5 rfl ?_
  refine zr_iloadn X dX6_maximumBetween_6 rfl ?_
  refine zr_xcallVV X K T (q := (RX6, TX6, 5)) (st := []) (fun sz => c_X6_requireNode l D cs ad hap hl (σ := σ) hN (v := t) ht sz) ⟨tw_350, tw_352, tp_14, tw_1, tw_353⟩ dc_X6_requireNode mF_3_7 rfl rfl rfl rfl rfl (Nat.le_of_ble_eq_true rfl) (by decide) dX6_maximumBetween_7 ⟨by decide, by decide⟩ (fun E h => Or.inl ⟨h.1, fun q => h.2 q.2⟩) ?_
  intro τ_ hp_
  obtain ⟨hτ_, hT⟩ := hp_
  subst τ_
  refine zr_iloadn X dX6_maximumBetween_10 rfl ?_
  refine zr_iloadn X dX6_maximumBetween_11 rfl ?_
  refine zr_xcallSV X K T (st := []) (fun sz => c_X6_requireDifferent l D cs ad hap hl (σ := σ) (v := s) (w := t) hs ht sz) ⟨tw_369, tw_370, tw_1, tw_371⟩ dc_X6_requireDifferent rfl rfl (Nat.le_of_ble_eq_true rfl) (by decide) dX6_maximumBetween_12 ⟨by decide, by decide⟩ (fun E h => Or.inr ⟨hS, hT, h⟩) ?_
  intro τ_ hp_
  obtain ⟨hτ_, hD⟩ := hp_
  subst τ_
  refine zr_aloadn X dX6_maximumBetween_15 rfl ?_
  refine zr_get X K (C := RX6) (T := TX6) (N := 5) (k := 2) mF_3_7 rfl rfl ti_6 (by decide) rfl tw_181 rfl dX6_maximumBetween_16 ?_
  refine zr_aloadn X dX6_maximumBetween_19 rfl ?_
  refine zr_get X K (C := RX6) (T := TX6) (N := 5) (k := 1) mF_3_7 rfl rfl ti_6 (by decide) rfl tw_180 rfl dX6_maximumBetween_20 ?_
  refine zr_callNV X K (q := (RX3, TX3, 6)) (st := []) (c_X3_copy l D cs ad hap (σ := σ) h.1) ⟨tn_419, tw_421, tp_20, tw_3, tw_422⟩ dc_X3_copy mF_7_0 rfl rfl rfl rfl rfl (Nat.le_of_ble_eq_true rfl) (by decide) dX6_maximumBetween_23 ?_
  intro υ hcp
  have ht0 := tr_cp hcp
  refine zr_aloadn X dX6_maximumBetween_26 rfl ?_
  refine zr_get X K (C := RX6) (T := TX6) (N := 5) (k := 2) mF_3_7 rfl rfl ti_6 (by decide) rfl tw_181 rfl dX6_maximumBetween_27 ?_
  refine zr_iloadn X dX6_maximumBetween_30 rfl ?_
  refine zr_iloadn X dX6_maximumBetween_31 rfl ?_
  refine zr_callNI X K (q := (RX3, TX3, 6)) (st := []) (c_X3_chooseEnds l D cs ad hap (b := 1) (by decide) (σ := υ) ht0.1 (s := s) (t := t) (Or.inr (by rw [ht0.2.1 0 0 (by decide)]; exact ⟨hS, hT, hD⟩))) ⟨tn_373, tw_375, tp_15, tw_3, tw_376⟩ dc_X3_chooseEnds mF_7_0 rfl rfl rfl rfl rfl (Nat.le_of_ble_eq_true rfl) (by decide) dX6_maximumBetween_32 ?_
  intro y ω hce
  have ht1 := tr_ce ht0 hce
  have hEt := tr_ey ht1 hS hT hD
  have hct := tr_c8 ht1 hEt (fun j j0 j1 => (h.2.1 j j0 j1).2)
  refine zr_pop X dX6_maximumBetween_35 rfl ?_
  refine zr_aloadn X dX6_maximumBetween_36 rfl ?_
  refine zr_get X K (C := RX6) (T := TX6) (N := 5) (k := 2) mF_3_7 rfl rfl ti_6 (by decide) rfl tw_181 rfl dX6_maximumBetween_37 ?_
  refine zr_callNI X K (q := (RX3, TX3, 6)) (st := []) (c_X3_greatestValue l D cs ad hap (b := 1) (by decide) (σ := ω) ht1.1 hEt hct) ⟨tn_406, tw_408, tp_18, tw_3, tw_409⟩ dc_X3_greatestValue mF_7_0 rfl rfl rfl rfl rfl (Nat.le_of_ble_eq_true rfl) (by decide) dX6_maximumBetween_40 ?_
  intro z τ hgv
  refine zr_xiret X ⟨by decide, by decide⟩ hr dX6_maximumBetween_43 ?_
  have hk := tr_gv ht1 h hgv
  exact ⟨hk.1, hk.2.1, ⟨hS, hT, hD⟩, hk.2.2⟩
