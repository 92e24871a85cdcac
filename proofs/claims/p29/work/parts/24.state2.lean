/-! THE CLASS: its state, its answers -/
theorem ind_nn2 (X : Int → Bool) {v x : Int} (h : 0 ≤ x) : 0 ≤ ind X v x := ind_nn h
/-- a set is a cut -/
def isMn (m : Nat) (tl hd c : Int → Int) (s t v : Int) : Prop := (∃ X : Int → Bool, X s = true ∧ ¬ X t = true ∧ gcp m tl hd c X = v) ∧ ∀ X : Int → Bool, X s = true → ¬ X t = true → v ≤ gcp m tl hd c X
theorem isMn_of {m : Nat} {tl hd c : Int → Int} {s t v : Int} (h : isMx m tl hd c s t v) : isMn m tl hd c s t v := ⟨h.2, fun _ h1 h2 => isMx_le h h1 h2⟩
theorem isMn_one {m : Nat} {tl hd c : Int → Int} {s t v w : Int} (h : isMn m tl hd c s t v) (k : isMn m tl hd c s t w) : v = w := by
  obtain ⟨⟨X, h1, h2, h3⟩, h4⟩ := h
  obtain ⟨⟨Y, k1, k2, k3⟩, k4⟩ := k
  have a1 := h4 Y k1 k2
  have a2 := k4 X h1 h2
  omega
theorem isMn_cong {m : Nat} {tl hd c tl' hd' c' : Int → Int} {s t v : Int} (h : ∀ a : Int, 0 ≤ a → a < m → tl' a = tl a ∧ hd' a = hd a ∧ c' a = c a) (k : isMn m tl hd c s t v) : isMn m tl' hd' c' s t v := by
  obtain ⟨⟨X, h3, h4, h5⟩, h6⟩ := k
  exact ⟨⟨X, h3, h4, by rw [gcp_cong h]; exact h5⟩, fun Y a1 a2 => by rw [gcp_cong h]; exact h6 Y a1 a2⟩
/-- a minimum cut -/
def mcut (m : Nat) (tl hd c : Int → Int) (s t : Int) (X : Int → Bool) : Prop := X s = true ∧ ¬ X t = true ∧ ∀ Y : Int → Bool, Y s = true → ¬ Y t = true → gcp m tl hd c X ≤ gcp m tl hd c Y
theorem mcut_cong {m : Nat} {tl hd c tl' hd' c' : Int → Int} {s t : Int} {X : Int → Bool} (h : ∀ a : Int, 0 ≤ a → a < m → tl' a = tl a ∧ hd' a = hd a ∧ c' a = c a) (k : mcut m tl hd c s t X) : mcut m tl' hd' c' s t X := ⟨k.1, k.2.1, fun Y a1 a2 => by rw [gcp_cong h, gcp_cong h]; exact k.2.2 Y a1 a2⟩
theorem mcut_val {m : Nat} {tl hd c : Int → Int} {s t v : Int} {X : Int → Bool} (h : isMn m tl hd c s t v) (k : mcut m tl hd c s t X) : gcp m tl hd c X = v := by
  obtain ⟨⟨Y, h1, h2, h3⟩, h4⟩ := h
  have a1 := h4 X k.1 k.2.1
  have a2 := k.2.2 Y h1 h2
  omega
/-- what a flow leaves closed is a minimum cut, and so on -/
theorem mc_iff {σ : Mem} {b : Nat} {F : Int} (hN : NetOk σ) (hF : FlOk σ b) (hV : mfV σ b F) (hs : shut σ b) {X : Int → Bool} (h1 : X (σ (b + 6, 8) 0) = true) (h2 : ¬ X (σ (b + 6, 9) 0) = true) : clo σ b X ↔ mcut (σ (0, 1) 0).toNat (σ (0, 2)) (σ (0, 3)) (σ (b + 6, 2)) (σ (b + 6, 8) 0) (σ (b + 6, 9) 0) X := by
  have hM := isMn_of (mx_of hN hF hV hs)
  have hv := hV X
  rw [ind_t h1, ind_f h2] at hv
  constructor
  · intro h
    have e := clo_net hN hF h
    refine ⟨h1, h2, fun Y y1 y2 => ?_⟩
    have := hM.2 Y y1 y2
    have e3 : cpo σ b X = gcp (σ (0, 1) 0).toNat (σ (0, 2)) (σ (0, 3)) (σ (b + 6, 2)) X := rfl
    omega
  · intro h
    refine net_clo hN hF ?_
    have := mcut_val hM h
    have e3 : cpo σ b X = gcp (σ (0, 1) 0).toNat (σ (0, 2)) (σ (0, 3)) (σ (b + 6, 2)) X := rfl
    omega
/-- the network, with other capacities -/
abbrev mnS (σ : Mem) (c : Int → Int) (s t v : Int) : Prop := isMn (σ (0, 1) 0).toNat (σ (0, 2)) (σ (0, 3)) c s t v
abbrev mcS (σ : Mem) (X : Int → Bool) : Prop := mcut (σ (0, 1) 0).toNat (σ (0, 2)) (σ (0, 3)) (σ (6, 2)) (σ (6, 8) 0) (σ (6, 9) 0) X
def updC (c : Int → Int) (a x : Int) : Int → Int := fun j => if j = a then x else c j
/-! the state between calls -/
def capOk (σ : Mem) : Prop := ∀ a, 0 ≤ a → a < 80 → 0 ≤ σ (6, 2) a ∧ σ (6, 2) a ≤ 1000000
def lvOk (σ : Mem) : Prop := (0 ≤ σ (3, 0) 0 ∧ σ (3, 0) 0 ≤ 8) ∧ (∀ i, 0 ≤ i → i < σ (3, 0) 0 → (σ (3, 1) i = -1 ∧ σ (3, 2) i = -1) ∨ ((0 ≤ σ (3, 1) i ∧ σ (3, 1) i < σ (0, 0) 0) ∧ (0 ≤ σ (3, 2) i ∧ σ (3, 2) i < σ (0, 0) 0) ∧ σ (3, 1) i ≠ σ (3, 2) i)) ∧ ∀ i, 0 ≤ i → i < σ (3, 0) 0 → ∀ a, 0 ≤ a → a < 80 → 0 ≤ σ (2, i.toNat) a ∧ σ (2, i.toNat) a ≤ 1000000
def cuOk (σ : Mem) : Prop := 0 ≤ σ (3, 4) 0 ∧ σ (3, 4) 0 ≤ 300
def fnOk (σ : Mem) : Prop := mfOk σ 0 ∧ capOk σ ∧ lvOk σ ∧ cuOk σ
/-- what a question leaves as it is -/
def keepQ (σ τ : Mem) : Prop := (∀ g k : Nat, g < 6 → τ (g, k) = σ (g, k)) ∧ τ (6, 2) = σ (6, 2) ∧ τ (6, 8) = σ (6, 8) ∧ τ (6, 9) = σ (6, 9)
theorem keepQ.rf {σ : Mem} : keepQ σ σ := ⟨fun _ _ _ => rfl, rfl, rfl, rfl⟩
theorem keepQ.tr {σ τ υ : Mem} (h : keepQ σ τ) (k : keepQ τ υ) : keepQ σ υ := ⟨fun g j hg => (k.1 g j hg).trans (h.1 g j hg), k.2.1.trans h.2.1, k.2.2.1.trans h.2.2.1, k.2.2.2.trans h.2.2.2⟩
theorem keepQ.ok {σ τ : Mem} (k : keepQ σ τ) (h : fnOk σ) (hm : mfOk τ 0) : fnOk τ := by
  refine ⟨hm, ?_, ?_, ?_⟩
  · have := h.2.1
    unfold capOk at this ⊢
    rw [k.2.1]
    exact this
  · have := h.2.2.1
    unfold lvOk at this ⊢
    have e : ∀ v : Nat, τ (2, v) = σ (2, v) := fun v => k.1 2 v (by decide)
    simp only [k.1 3 0 (by decide), k.1 3 1 (by decide), k.1 3 2 (by decide), k.1 0 0 (by decide), e]
    exact this
  · have := h.2.2.2
    unfold cuOk at this ⊢
    rw [k.1 3 4 (by decide)]
    exact this
theorem keepQ.fr0 {σ τ : Mem} {L : List Nat} (h : Fr 0 L σ τ) (h2 : 2 ∉ L := by decide) (h8 : 8 ∉ L := by decide) (h9 : 9 ∉ L := by decide) : keepQ σ τ := ⟨fun g k hg => h.1 g k (Or.inl (by omega)), h.own 2 h2, h.own 8 h8, h.own 9 h9⟩
theorem fr1 {L : List Nat} {σ τ : Mem} (h : Fr 1 L σ τ) : ∀ g k : Nat, g ≠ 7 → τ (g, k) = σ (g, k) := fun g k hg => h.1 g k (Or.inl hg)
theorem keepQ.o7 {σ τ : Mem} (h : ∀ g k : Nat, g ≠ 7 → τ (g, k) = σ (g, k)) : keepQ σ τ := ⟨fun g k hg => h g k (by omega), h 6 2 (by decide), h 6 8 (by decide), h 6 9 (by decide)⟩
theorem mf_cong {σ τ : Mem} {b : Nat} (e : ∀ g k : Nat, g < 2 → τ (g, k) = σ (g, k)) (e2 : ∀ k : Nat, τ (b + 6, k) = σ (b + 6, k)) (h : mfOk σ b) : mfOk τ b := by
  obtain ⟨⟨hN, hA, hF⟩, hE, ⟨F, hF0, hV⟩, h0, h10, hs, hz⟩ := h
  unfold NetOk at hN
  unfold AdjOk at hA
  refine ⟨⟨?_, ?_, ?_⟩, hE.imp (fun q => ?_) (fun q => ?_), ⟨F, hF0, fun X => ?_⟩, fun q => ?_, ?_, fun q => ?_, ?_⟩
  · unfold NetOk
    rw [e 0 0 (by decide), e 0 1 (by decide), e 0 2 (by decide), e 0 3 (by decide)]
    exact hN
  · unfold AdjOk
    have e' : ∀ v : Nat, τ (1, v) = σ (1, v) := fun v => e 1 v (by decide)
    simp only [e 0 0 (by decide), e 0 1 (by decide), e 0 2 (by decide), e 0 3 (by decide), e 0 4 (by decide), e']
    exact hA
  · unfold FlOk
    rw [e 0 1 (by decide), e2 2, e2 3]
    exact hF
  · unfold endsNo
    rw [e2 8, e2 9]
    exact q
  · unfold endsYes
    rw [e2 8, e2 9, e 0 0 (by decide)]
    exact q
  · rw [net_same (e 0 1 (by decide)) (e 0 2 (by decide)) (e 0 3 (by decide)) (e2 3), e2 8, e2 9]
    exact hV X
  · unfold endsNo at q
    rw [e2 8, e2 9] at q
    rw [e 0 1 (by decide), e2 3]
    exact h0 q
  · rw [e2 10]
    exact h10
  · rw [e2 10] at q
    obtain ⟨g1, X, g2, g3, g4⟩ := hs q
    refine ⟨?_, X, ?_, ?_, clo_same (e 0 1 (by decide)) (e 0 2 (by decide)) (e 0 3 (by decide)) (e2 2) (e2 3) g4⟩
    · unfold endsYes
      rw [e2 8, e2 9, e 0 0 (by decide)]
      exact g1
    · rw [e2 8]; exact g2
    · rw [e2 9]; exact g3
  · rw [e 0 1 (by decide), e2 2, e2 3]
    exact hz
/-! a cut below the bound -/
theorem sm_80 {f : Int → Int} {n : Nat} (hn : n ≤ 80) (h : ∀ a : Int, 0 ≤ a → a < n → f a ≤ 1000000) : sm f n ≤ 80000000 := by
  have h1 : sm f n ≤ sm (fun _ => 1000000) n := sm_le h
  rw [sm_const] at h1
  have : (n : Int) ≤ 80 := by omega
  omega
theorem cut_of {σ : Mem} {b : Nat} (hN : NetOk σ) (hE : endsYes σ b) (h : ∀ a, 0 ≤ a → a < σ (0, 1) 0 → σ (b + 6, 2) a ≤ 1000000) : cut8 σ b := by
  refine ⟨fun v => decide (v = σ (b + 6, 8) 0), decide_eq_true rfl, fun q => hE.2.2 (of_decide_eq_true q).symm, ?_⟩
  have hm := hN.2.1
  have : cpo σ b (fun v => decide (v = σ (b + 6, 8) 0)) ≤ 80000000 := sm_80 (by omega) fun a a1 a2 => by
    show (if _ then _ else _) ≤ (1000000 : Int)
    have := h a a1 (by omega)
    split
    · exact this
    · decide
  omega
theorem cut_0 {σ : Mem} (h : fnOk σ) (hE : endsYes σ 0) : cut8 σ 0 := cut_of h.1.1.1 hE fun a a1 a2 => (h.2.1 a a1 (by have := h.1.1.1.2.1; omega)).2
/-! a copy -/
def cpP (σ τ : Mem) : Prop := mfOk τ 1 ∧ (∀ g k : Nat, g ≠ 7 → τ (g, k) = σ (g, k)) ∧ (∀ j, 0 ≤ j → j < 80 → τ (7, 2) j = σ (6, 2) j ∧ τ (7, 3) j = σ (6, 3) j) ∧ τ (7, 8) 0 = σ (6, 8) 0 ∧ τ (7, 9) 0 = σ (6, 9) 0 ∧ τ (7, 10) 0 = σ (6, 10) 0
theorem cp_of {σ σ0 σ1 σ2 τ : Mem} (h : mfOk σ 0) (e0 : σ0 = mcopy (mcopy σ (6, 2) (7, 2) 80) (6, 3) (7, 3) 80) (e1 : mset σ0 (7, 8) 0 (σ0 (6, 8) 0) = σ1) (e2 : mset σ1 (7, 9) 0 (σ1 (6, 9) 0) = σ2) (e3 : mset σ2 (7, 10) 0 (σ2 (6, 10) 0) = τ) : cpP σ τ := by
  have f0 : ∀ g k : Nat, g ≠ 7 → σ0 (g, k) = σ (g, k) := fun g k hg => by
    rw [e0, mcopy_id (fun q => hg (by cases q; rfl)), mcopy_id (fun q => hg (by cases q; rfl))]
  have f1 : ∀ q : Ix, q ≠ (7, 8) → σ1 q = σ0 q := fun q hq => by rw [← e1]; exact mset_id hq
  have f2 : ∀ q : Ix, q ≠ (7, 9) → σ2 q = σ1 q := fun q hq => by rw [← e2]; exact mset_id hq
  have f3 : ∀ q : Ix, q ≠ (7, 10) → τ q = σ2 q := fun q hq => by rw [← e3]; exact mset_id hq
  have fe : ∀ g k : Nat, g ≠ 7 → τ (g, k) = σ (g, k) := fun g k hg => by
    rw [f3 _ (fun q => hg (by cases q; rfl)), f2 _ (fun q => hg (by cases q; rfl)), f1 _ (fun q => hg (by cases q; rfl)), f0 g k hg]
  have k2 : ∀ j, 0 ≤ j → j < 80 → τ (7, 2) j = σ (6, 2) j := fun j j0 j1 => by
    rw [f3 _ (by decide), f2 _ (by decide), f1 _ (by decide), e0, mcopy_id (by decide), mcopy_in j0 j1]
  have k3 : ∀ j, 0 ≤ j → j < 80 → τ (7, 3) j = σ (6, 3) j := fun j j0 j1 => by
    rw [f3 _ (by decide), f2 _ (by decide), f1 _ (by decide), e0, mcopy_in j0 j1, mcopy_id (by decide)]
  have k8 : τ (7, 8) 0 = σ (6, 8) 0 := by rw [f3 _ (by decide), f2 _ (by decide), ← e1, mset_same, f0 6 8 (by decide)]
  have k9 : τ (7, 9) 0 = σ (6, 9) 0 := by rw [f3 _ (by decide), ← e2, mset_same, f1 _ (by decide), f0 6 9 (by decide)]
  have k10 : τ (7, 10) 0 = σ (6, 10) 0 := by rw [← e3, mset_same, f2 _ (by decide), f1 _ (by decide), f0 6 10 (by decide)]
  obtain ⟨⟨hN, hA, hF⟩, hE, ⟨F, hF0, hV⟩, h0, h10, hs, hz⟩ := h
  have hm := hN.2.1
  have e := fun k => fe 0 k (by decide)
  have hr : ∀ a, 0 ≤ a → a < σ (0, 1) 0 → ∀ v, rmF τ 1 a v = rmF σ 0 a v := fun a a1 a2 v => by
    unfold rmF
    rw [e 2, show τ (1 + 6, 2) a = σ (0 + 6, 2) a from k2 a a1 (by omega), show τ (1 + 6, 3) a = σ (0 + 6, 3) a from k3 a a1 (by omega)]
  refine ⟨⟨⟨?_, ?_, ?_⟩, hE.imp (fun q => ?_) (fun q => ?_), ⟨F, hF0, fun X => ?_⟩, fun q a a1 a2 => ?_, ?_, fun q => ?_, fun a a1 a2 => ?_⟩, fe, fun j j0 j1 => ⟨k2 j j0 j1, k3 j j0 j1⟩, k8, k9, k10⟩
  · unfold NetOk at hN ⊢
    rw [e 0, e 1, e 2, e 3]
    exact hN
  · unfold AdjOk at hA ⊢
    have e' : ∀ v : Nat, τ (1, v) = σ (1, v) := fun v => fe 1 v (by decide)
    simp only [e 0, e 1, e 2, e 3, e 4, e']
    exact hA
  · intro a a1 a2
    rw [e 1] at a2
    show 0 ≤ τ (7, 3) a ∧ τ (7, 3) a ≤ τ (7, 2) a ∧ τ (7, 2) a ≤ 100000000
    rw [k2 a a1 (by omega), k3 a a1 (by omega)]
    exact hF a a1 a2
  · exact ⟨k8.trans q.1, k9.trans q.2⟩
  · show (0 ≤ τ (7, 8) 0 ∧ τ (7, 8) 0 < τ (0, 0) 0) ∧ (0 ≤ τ (7, 9) 0 ∧ τ (7, 9) 0 < τ (0, 0) 0) ∧ τ (7, 8) 0 ≠ τ (7, 9) 0
    rw [k8, k9, e 0]
    exact q
  · show net τ 1 X = ind X (τ (7, 8) 0) F - ind X (τ (7, 9) 0) F
    rw [k8, k9]
    refine Eq.trans ?_ (hV X)
    unfold net nf
    rw [e 1]
    refine sm_cong fun a a1 a2 => ?_
    show ind X (τ (0, 2) a) (τ (7, 3) a) - ind X (τ (0, 3) a) (τ (7, 3) a) = _
    rw [e 2, e 3, k3 a a1 (by omega)]
  · show τ (7, 3) a = 0
    rw [e 1] at a2
    rw [k3 a a1 (by omega)]
    exact h0 ⟨k8.symm.trans q.1, k9.symm.trans q.2⟩ a a1 a2
  · show τ (7, 10) 0 = 0 ∨ τ (7, 10) 0 = 1
    rw [k10]
    exact h10
  · obtain ⟨g1, X, g2, g3, g4⟩ := hs (k10.symm.trans q)
    refine ⟨?_, X, ?_, ?_, fun a a1 a2 => ?_⟩
    · show (0 ≤ τ (7, 8) 0 ∧ τ (7, 8) 0 < τ (0, 0) 0) ∧ (0 ≤ τ (7, 9) 0 ∧ τ (7, 9) 0 < τ (0, 0) 0) ∧ τ (7, 8) 0 ≠ τ (7, 9) 0
      rw [k8, k9, e 0]
      exact g1
    · show X (τ (7, 8) 0) = true
      rw [k8]; exact g2
    · show ¬ X (τ (7, 9) 0) = true
      rw [k9]; exact g3
    · rw [e 1] at a2
      rw [e 2, e 3, hr a a1 a2, hr a a1 a2]
      exact g4 a a1 a2
  · rw [e 1] at a1
    show τ (7, 2) a = 0 ∧ τ (7, 3) a = 0
    rw [k2 a (by omega) a2, k3 a (by omega) a2]
    exact hz a a1 a2


set_option maxHeartbeats 4000000 in
set_option maxRecDepth 100000 in
theorem c_X3_copy (l : Launch) (D : va_G) (cs : Nat → ClassId) (ad : Ix → Nat) (hap : Apart idsF ad) {σ : Mem} (h : mfOk σ 0) : CV l D cs idsF ad yX3_copy cX3_copy 2 2 [(.ref (ad (7, 0))), (.ref (ad (6, 0)))] σ (fun τ => cpP σ τ) := by
  refine CV.of RX3 hap idsF_nd (by decide) rfl (Nat.le_of_ble_eq_true rfl) ?_
  intro pg ev s0 mi av bl mt cd X K hr
  refine zr_aloadn X dX3_copy_0 rfl ?_
  refine zr_get X K (v := (.ref (ad (7, 1)))) (C := RX3) (T := TX3) (N := 6) (k := 1) mF_7_0 rfl rfl ti_3 (by decide) rfl tw_123 rfl dX3_copy_1 ?_
  refine zr_aloadn X dX3_copy_4 rfl ?_
  refine zr_get X K (v := (.ref (ad (6, 1)))) (C := RX3) (T := TX3) (N := 6) (k := 1) mF_6_0 rfl rfl ti_3 (by decide) rfl tw_123 rfl dX3_copy_5 ?_
  refine zr_callNV X K (q := (RX1, TX1, 3)) (st := []) (c_X1_copy l D cs ad hap (σ := σ)) ⟨tn_423, tw_425, tp_21, tw_4, tw_426⟩ dc_X1_copy mF_7_1 rfl rfl rfl rfl rfl (Nat.le_of_ble_eq_true rfl) (by decide) dX3_copy_8 ?_
  intro τ1 hc1
  refine zr_aloadn X dX3_copy_11 rfl ?_
  refine zr_aloadn X dX3_copy_12 rfl ?_
  refine zr_get X K (v := (jI (τ1 (6, 8) 0))) (C := RX3) (T := TX3) (N := 6) (k := 3) mF_6_0 rfl rfl ti_3 (by decide) rfl tw_127 rfl dX3_copy_13 ?_
  refine zr_put X K (q := (7, 8)) (C := RX3) (T := TX3) (ty0 := tyX3) (N := 6) (k := 3) mF_7_0 (fun _ => rfl) (by simp [mset]) rfl rfl ti_3 tyX3_ok nmX3 (by decide) rfl tw_127 rfl rfl rfl (Nat.le_of_ble_eq_true rfl) dX3_copy_16 ?_
  generalize hm_σ1 : mset τ1 (7, 8) 0 (τ1 (6, 8) 0) = σ1
  refine zr_aloadn X dX3_copy_19 rfl ?_
  refine zr_aloadn X dX3_copy_20 rfl ?_
  refine zr_get X K (v := (jI (σ1 (6, 9) 0))) (C := RX3) (T := TX3) (N := 6) (k := 4) mF_6_0 rfl rfl ti_3 (by decide) rfl tw_129 rfl dX3_copy_21 ?_
  refine zr_put X K (q := (7, 9)) (C := RX3) (T := TX3) (ty0 := tyX3) (N := 6) (k := 4) mF_7_0 (fun _ => rfl) (by simp [mset]) rfl rfl ti_3 tyX3_ok nmX3 (by decide) rfl tw_129 rfl rfl rfl (Nat.le_of_ble_eq_true rfl) dX3_copy_24 ?_
  generalize hm_σ2 : mset σ1 (7, 9) 0 (σ1 (6, 9) 0) = σ2
  refine zr_aloadn X dX3_copy_27 rfl ?_
  refine zr_aloadn X dX3_copy_28 rfl ?_
  refine zr_get X K (v := (jI (σ2 (6, 10) 0))) (C := RX3) (T := TX3) (N := 6) (k := 5) mF_6_0 rfl rfl ti_3 (by decide) rfl tw_131 rfl dX3_copy_29 ?_
  have hs10 : σ2 (6, 10) 0 = 0 ∨ σ2 (6, 10) 0 = 1 := by
    rw [← hm_σ2, mset_id (by decide), ← hm_σ1, mset_id (by decide), hc1, mcopy_id (by decide), mcopy_id (by decide)]
    exact h.2.2.2.2.1
  refine zr_put X K (q := (7, 10)) (C := RX3) (T := TX3) (ty0 := tyX3) (N := 6) (k := 5) mF_7_0 (fun _ => rfl) (by simp [mset]) rfl rfl ti_3 tyX3_ok nmX3 (by decide) rfl tw_131 rfl (by rcases hs10 with q | q <;> (rw [q]; rfl)) (by rcases hs10 with q | q <;> (rw [q]; rfl)) (Nat.le_of_ble_eq_true rfl) dX3_copy_32 ?_
  generalize hm_σ3 : mset σ2 (7, 10) 0 (σ2 (6, 10) 0) = σ3
  refine zr_vret X hr dX3_copy_35 ?_
  exact cp_of h hc1 hm_σ1 hm_σ2 hm_σ3
