/-! THE CLASS: what can be moved away from an arc, and onto it -/
def mvG (σ : Mem) (a : Int) (X : Int → Bool) : Int := net σ 0 X - ind X (σ (0, 2) a) (σ (6, 3) a) + ind X (σ (0, 3) a) (σ (6, 3) a)
def mvC (σ : Mem) (a : Int) (X : Int → Bool) : Int := gcp (σ (0, 1) 0).toNat (σ (0, 2)) (σ (0, 3)) (updC (σ (6, 2)) a 0) X
def mvS (σ τ : Mem) (a x y B z : Int) : Prop := (∀ g k : Nat, g ≠ 7 → τ (g, k) = σ (g, k)) ∧ 0 ≤ z ∧ (0 < B → z ≤ B) ∧ (B ≤ 0 → z = 0) ∧ (∀ X, mvG σ a X + ind X x z - ind X y z ≤ mvC σ a X) ∧ (0 < B → z = B ∨ ∃ X : Int → Bool, X x = true ∧ ¬ X y = true ∧ mvG σ a X + ind X x z - ind X y z = mvC σ a X)
theorem mv_pre {σ τ1 τ2 : Mem} {a : Int} (h : mfOk σ 0) (ha : 0 ≤ a ∧ a < σ (0, 1) 0) (hc : cpP σ τ1) (hb : τ2 = mset (mset τ1 (7, 2) a 0) (7, 3) a 0) : (NetOk τ2 ∧ AdjOk τ2 ∧ FlOk τ2 1) ∧ (∀ g k : Nat, g ≠ 7 → τ2 (g, k) = σ (g, k)) ∧ (∀ X, net τ2 1 X = mvG σ a X) ∧ ∀ X, cpo τ2 1 X = mvC σ a X := by
  have hm := h.1.1.2.1
  have f : ∀ g k : Nat, g ≠ 7 → τ2 (g, k) = τ1 (g, k) := fun g k hg => by rw [hb, mset_id (fun e => hg (by cases e; rfl)), mset_id (fun e => hg (by cases e; rfl))]
  have e2 : ∀ j, τ2 (7, 2) j = if j = a then 0 else τ1 (7, 2) j := fun j => by rw [hb, mset_id (by decide), mset_at]
  have e3 : ∀ j, τ2 (7, 3) j = if j = a then 0 else τ1 (7, 3) j := fun j => by rw [hb, mset_at]; by_cases q : j = a <;> simp only [q, if_true, if_false]; rw [mset_id (by decide)]
  have hfr : Fr 1 [2, 3] τ1 τ2 := ⟨fun g k hq => by
    rcases hq with q | q
    · exact f g k q
    · by_cases e : g = 7
      · subst e
        rw [hb, mset_id (fun e => q (by cases e; decide)), mset_id (fun e => q (by cases e; decide))]
      · exact f g k e, fun j hj => by
    show τ2 (7, 3) j = τ1 (7, 3) j
    have := hc.2.1 0 1 (by decide)
    rw [e3, if_neg (by rw [this] at hj; omega)]⟩
  have e01 := hc.2.1 0 1 (by decide)
  have e02 := hc.2.1 0 2 (by decide)
  have e03 := hc.2.1 0 3 (by decide)
  have hF1 : FlOk τ1 1 := hc.1.1.2.2
  refine ⟨⟨hfr.net hc.1.1.1, hfr.adj hc.1.1.2.1, fun j j0 j1 => ?_⟩, fun g k hg => (f g k hg).trans (hc.2.1 g k hg), fun X => ?_, fun X => ?_⟩
  · rw [f 0 1 (by decide)] at j1
    have := hF1 j j0 j1
    show 0 ≤ τ2 (7, 3) j ∧ τ2 (7, 3) j ≤ τ2 (7, 2) j ∧ τ2 (7, 2) j ≤ 100000000
    have this : 0 ≤ τ1 (7, 3) j ∧ τ1 (7, 3) j ≤ τ1 (7, 2) j ∧ τ1 (7, 2) j ≤ 100000000 := this
    rw [e2, e3]
    split <;> omega
  · have h1 : net τ1 1 X = net σ 0 X := by
      unfold net
      rw [e01]
      refine sm_cong fun j j0 j1 => ?_
      show ind X (τ1 (0, 2) j) (τ1 (7, 3) j) - ind X (τ1 (0, 3) j) (τ1 (7, 3) j) = ind X (σ (0, 2) j) (σ (6, 3) j) - ind X (σ (0, 3) j) (σ (6, 3) j)
      rw [e02, e03, (hc.2.2.1 j j0 (by omega)).2]
    have h2 := net_send (σ := τ1) (τ := τ2) (b := 1) (X := X) (a := a) (x := - τ1 (7, 3) a) (by rw [e01]; exact ha) (f 0 1 (by decide)) (f 0 2 (by decide)) (f 0 3 (by decide)) (fun j => by
      show τ2 (7, 3) j = if j = a then τ1 (7, 3) a + - τ1 (7, 3) a else τ1 (7, 3) j
      rw [e3]
      by_cases q : j = a
      · rw [if_pos q, if_pos q]; omega
      · rw [if_neg q, if_neg q])
    rw [h2, h1, e02, e03, (hc.2.2.1 a ha.1 (by omega)).2]
    unfold mvG ind
    split <;> split <;> omega
  · unfold cpo mvC gcp
    rw [f 0 1 (by decide), e01]
    refine sm_cong fun j j0 j1 => ?_
    show (if X (τ2 (0, 2) j) = true ∧ ¬ X (τ2 (0, 3) j) = true then τ2 (7, 2) j else 0) = if X (σ (0, 2) j) = true ∧ ¬ X (σ (0, 3) j) = true then updC (σ (6, 2)) a 0 j else 0
    rw [f 0 2 (by decide), f 0 3 (by decide), e02, e03, e2]
    unfold updC
    by_cases q : j = a
    · rw [if_pos q, if_pos q]
    · rw [if_neg q, if_neg q, (hc.2.2.1 j j0 (by omega)).1]
theorem mv_of {σ τ1 τ2 τ : Mem} {a x y B z : Int} (h : mfOk σ 0) (ha : 0 ≤ a ∧ a < σ (0, 1) 0) (hc : cpP σ τ1) (hb : τ2 = mset (mset τ1 (7, 2) a 0) (7, 3) a 0) (hx : 0 ≤ x) (hy : 0 ≤ y) (hxy : x ≠ y) (k : rtP τ2 τ 1 x y B z) : mvS σ τ a x y B z := by
  obtain ⟨⟨p1, p2, p3⟩, p4, p5, p6⟩ := mv_pre h ha hc hb
  obtain ⟨k1, k2, k3, k4, k5, k6, k7⟩ := k
  have hN := k3.net p1
  have hcp : ∀ X, cpo τ 1 X = mvC σ a X := fun X => by rw [cpo_same (k3.of 0 1) (k3.of 0 2) (k3.of 0 3) (k3.own 2)]; exact p6 X
  have hne : ∀ X, net τ 1 X = mvG σ a X + ind X x z - ind X y z := fun X => by rw [k4 X, p5 X]
  refine ⟨fun g q hg => (fr1 k3 g q hg).trans (p4 g q hg), k1, k6, fun q => (k5 (Or.inr (Or.inr (Or.inr q)))).1, fun X => ?_, fun q => (k7 hx hy hxy q).imp id ?_⟩
  · rw [← hne, ← hcp]
    exact net_le hN k2 X
  · rintro ⟨X, x1, x2, x3⟩
    refine ⟨X, x1, x2, ?_⟩
    rw [← hne, ← hcp]
    exact clo_net hN k2 x3
theorem ind1 (X : Int → Bool) (v x : Int) : ind X v x = 0 ∨ ind X v x = x := by
  unfold ind
  split
  · exact Or.inr rfl
  · exact Or.inl rfl
theorem updC_le {m : Nat} {tl hd c : Int → Int} {a : Int} (hc : ∀ j : Int, 0 ≤ j → j < m → 0 ≤ c j) (X : Int → Bool) : 0 ≤ gcp m tl hd (updC c a 0) X ∧ gcp m tl hd (updC c a 0) X ≤ gcp m tl hd c X := by
  refine ⟨gcp_nn (fun j j0 j1 => ?_) X, sm_le fun j j0 j1 => ?_⟩
  · have := hc j j0 j1
    unfold updC
    split <;> omega
  · have := hc j j0 j1
    show (if X (tl j) = true ∧ ¬ X (hd j) = true then updC c a 0 j else 0) ≤ if X (tl j) = true ∧ ¬ X (hd j) = true then c j else 0
    unfold updC
    split
    · split <;> omega
    · exact Int.le_refl 0
/-- the least and the greatest flow over an arc -/
def leS (σ : Mem) (a z : Int) : Prop := ∃ F F0, mnS σ (σ (6, 2)) (σ (6, 8) 0) (σ (6, 9) 0) F ∧ mnS σ (updC (σ (6, 2)) a 0) (σ (6, 8) 0) (σ (6, 9) 0) F0 ∧ z = F - F0
def gfS (σ : Mem) (a z : Int) : Prop := ∃ F, mnS σ (σ (6, 2)) (σ (6, 8) 0) (σ (6, 9) 0) F ∧ z ≤ σ (6, 2) a ∧ (∀ X : Int → Bool, X (σ (0, 3) a) = true → ¬ X (σ (0, 2) a) = true → ind X (σ (6, 8) 0) F - ind X (σ (6, 9) 0) F + z ≤ gcp (σ (0, 1) 0).toNat (σ (0, 2)) (σ (0, 3)) (σ (6, 2)) X) ∧ (z = σ (6, 2) a ∨ ∃ X : Int → Bool, X (σ (0, 3) a) = true ∧ ¬ X (σ (0, 2) a) = true ∧ ind X (σ (6, 8) 0) F - ind X (σ (6, 9) 0) F + z = gcp (σ (0, 1) 0).toNat (σ (0, 2)) (σ (0, 3)) (σ (6, 2)) X)
theorem le_of {σ σ1 τ : Mem} {a z : Int} (hf : fnOk σ) (hE : endsYes σ 0) (h : stP σ σ1 0) (ha : 0 ≤ a ∧ a < σ (0, 1) 0) (k : mvS σ1 τ a (σ1 (0, 2) a) (σ1 (0, 3) a) (σ1 (6, 3) a) z) : leS σ a (σ1 (6, 3) a - z) := by
  have hm := hf.net.2.1
  have hk := (st_keep hf h).2
  obtain ⟨F, hF0, hV, hX⟩ := st_val h
  have hMn : mnS σ (σ (6, 2)) (σ (6, 8) 0) (σ (6, 9) 0) F := isMn_of hX
  have e1 : σ1 (0, 1) = σ (0, 1) := hk.1 0 1 (by decide)
  have e2 : σ1 (0, 2) = σ (0, 2) := hk.1 0 2 (by decide)
  have e3 : σ1 (0, 3) = σ (0, 3) := hk.1 0 3 (by decide)
  obtain ⟨-, k1, k2, k3, k4, k5⟩ := k
  have hfa := h.1.1.2.2 a ha.1 (by rw [e1]; exact ha.2)
  have hfa : 0 ≤ σ1 (6, 3) a ∧ σ1 (6, 3) a ≤ σ1 (6, 2) a := ⟨hfa.1, hfa.2.1⟩
  have hG : ∀ X, mvG σ1 a X + ind X (σ1 (0, 2) a) z - ind X (σ1 (0, 3) a) z = ind X (σ (6, 8) 0) F - ind X (σ (6, 9) 0) F - ind X (σ (0, 2) a) (σ1 (6, 3) a - z) + ind X (σ (0, 3) a) (σ1 (6, 3) a - z) := fun X => by
    have : net σ1 0 X = ind X (σ1 (6, 8) 0) F - ind X (σ1 (6, 9) 0) F := hV X
    unfold mvG
    rw [this, hk.2.2.1, hk.2.2.2, e2, e3, ind_sub, ind_sub]
    omega
  have hC : ∀ X, mvC σ1 a X = gcp (σ (0, 1) 0).toNat (σ (0, 2)) (σ (0, 3)) (updC (σ (6, 2)) a 0) X := fun X => by
    unfold mvC
    rw [e1, e2, e3, hk.2.1]
  have hcn : ∀ j : Int, 0 ≤ j → j < ((σ (0, 1) 0).toNat : Int) → 0 ≤ σ (6, 2) j := fun j j0 j1 => (hf.2.1 j j0 (by omega)).1
  have hkn : 0 ≤ σ1 (6, 3) a - z := by
    by_cases q : 0 < σ1 (6, 3) a
    · have := k2 q; omega
    · have := k3 (by omega); omega
  have hlow : ∀ X : Int → Bool, X (σ (6, 8) 0) = true → ¬ X (σ (6, 9) 0) = true → F - (σ1 (6, 3) a - z) ≤ gcp (σ (0, 1) 0).toNat (σ (0, 2)) (σ (0, 3)) (updC (σ (6, 2)) a 0) X := fun X x1 x2 => by
    have := k4 X
    rw [hG, hC, ind_t x1, ind_f x2] at this
    have g1 := ind1 X (σ (0, 2) a) (σ1 (6, 3) a - z)
    have g2 := ind_nn2 X (v := σ (0, 3) a) hkn
    omega
  refine ⟨F, F - (σ1 (6, 3) a - z), hMn, ⟨?_, hlow⟩, by omega⟩
  by_cases q : σ1 (6, 3) a - z = 0
  · obtain ⟨X, x1, x2, x3⟩ := hMn.1
    refine ⟨X, x1, x2, ?_⟩
    have g1 := (updC_le (tl := σ (0, 2)) (hd := σ (0, 3)) (a := a) hcn X).2
    have g2 := hlow X x1 x2
    omega
  · have hB : 0 < σ1 (6, 3) a := by omega
    obtain ⟨X, x1, x2, x3⟩ := (k5 hB).resolve_left (by omega)
    rw [e2] at x1
    rw [e3] at x2
    rw [hG, hC, ind_t x1, ind_f x2] at x3
    have g1 := (updC_le (tl := σ (0, 2)) (hd := σ (0, 3)) (a := a) hcn X).1
    have g2 := ind_nn2 X (v := σ (6, 9) 0) hF0
    have y1 : X (σ (6, 8) 0) = true := by
      by_cases y : X (σ (6, 8) 0) = true
      · exact y
      · rw [ind_f y] at x3; omega
    have y2 : ¬ X (σ (6, 9) 0) = true := fun y => by
      rw [ind_t y1, ind_t y] at x3; omega
    rw [ind_t y1, ind_f y2] at x3
    exact ⟨X, y1, y2, by omega⟩
theorem gf_of {σ σ1 τ : Mem} {a z : Int} (hf : fnOk σ) (hE : endsYes σ 0) (h : stP σ σ1 0) (ha : 0 ≤ a ∧ a < σ (0, 1) 0) (k : mvS σ1 τ a (σ1 (0, 3) a) (σ1 (0, 2) a) (σ1 (6, 2) a - σ1 (6, 3) a) z) : gfS σ a (σ1 (6, 3) a + z) := by
  have hm := hf.net.2.1
  have hk := (st_keep hf h).2
  obtain ⟨F, hF0, hV, hX⟩ := st_val h
  have hMn : mnS σ (σ (6, 2)) (σ (6, 8) 0) (σ (6, 9) 0) F := isMn_of hX
  have e1 : σ1 (0, 1) = σ (0, 1) := hk.1 0 1 (by decide)
  have e2 : σ1 (0, 2) = σ (0, 2) := hk.1 0 2 (by decide)
  have e3 : σ1 (0, 3) = σ (0, 3) := hk.1 0 3 (by decide)
  have e4 : σ1 (6, 2) a = σ (6, 2) a := congrFun hk.2.1 a
  obtain ⟨-, k1, k2, k3, k4, k5⟩ := k
  have hfa := h.1.1.2.2 a ha.1 (by rw [e1]; exact ha.2)
  have hfa : 0 ≤ σ1 (6, 3) a ∧ σ1 (6, 3) a ≤ σ1 (6, 2) a := ⟨hfa.1, hfa.2.1⟩
  have hG : ∀ X : Int → Bool, X (σ (0, 3) a) = true → ¬ X (σ (0, 2) a) = true → mvG σ1 a X + ind X (σ1 (0, 3) a) z - ind X (σ1 (0, 2) a) z = ind X (σ (6, 8) 0) F - ind X (σ (6, 9) 0) F + (σ1 (6, 3) a + z) := fun X x1 x2 => by
    have : net σ1 0 X = ind X (σ1 (6, 8) 0) F - ind X (σ1 (6, 9) 0) F := hV X
    unfold mvG
    rw [this, hk.2.2.1, hk.2.2.2, e2, e3, ind_t x1, ind_f x2, ind_f x2, ind_t x1]
    omega
  have hC : ∀ X : Int → Bool, ¬ X (σ (0, 2) a) = true → mvC σ1 a X = gcp (σ (0, 1) 0).toNat (σ (0, 2)) (σ (0, 3)) (σ (6, 2)) X := fun X x2 => by
    unfold mvC
    rw [e1, e2, e3, hk.2.1]
    refine sm_cong fun j j0 j1 => ?_
    show (if X (σ (0, 2) j) = true ∧ ¬ X (σ (0, 3) j) = true then updC (σ (6, 2)) a 0 j else 0) = if X (σ (0, 2) j) = true ∧ ¬ X (σ (0, 3) j) = true then σ (6, 2) j else 0
    by_cases q : j = a
    · subst q
      rw [if_neg (fun g => x2 g.1), if_neg (fun g => x2 g.1)]
    · rw [show updC (σ (6, 2)) a 0 j = σ (6, 2) j from if_neg q]
  refine ⟨F, hMn, ?_, fun X x1 x2 => ?_, ?_⟩
  · by_cases q : 0 < σ1 (6, 2) a - σ1 (6, 3) a
    · have := k2 q; omega
    · have := k3 (by omega); omega
  · have := k4 X
    rw [hG X x1 x2, hC X x2] at this
    exact this
  · by_cases q : 0 < σ1 (6, 2) a - σ1 (6, 3) a
    · rcases k5 q with g | ⟨X, x1, x2, x3⟩
      · exact Or.inl (by omega)
      · rw [e3] at x1
        rw [e2] at x2
        rw [hG X x1 x2, hC X x2] at x3
        exact Or.inr ⟨X, x1, x2, x3⟩
    · have := k3 (by omega)
      exact Or.inl (by omega)
theorem mv_keep {σ τ : Mem} {a x y B z : Int} (hf : fnOk σ) (k : mvS σ τ a x y B z) : fnOk τ ∧ keepQ σ τ := ⟨(keepQ.o7 k.1).ok hf (mf_cong (fun g q hg => k.1 g q (by omega)) (fun q => k.1 6 q (by decide)) hf.1), keepQ.o7 k.1⟩

theorem dc_X6_movable : dcl yX6_movable 3 := ⟨by decide, by decide, by decide +kernel⟩

set_option maxHeartbeats 4000000 in
set_option maxRecDepth 100000 in
theorem c_X6_movable (l : Launch) (D : va_G) (cs : Nat → ClassId) (ad : Ix → Nat) (hap : Apart idsF ad) {σ : Mem} (h : mfOk σ 0) {a x B : Int} (ha : 0 ≤ a ∧ a < σ (0, 1) 0) (hx : x = σ (0, 2) a ∨ x = σ (0, 3) a) (hB : rg B ∧ B ≤ 100000000) : CI l D cs idsF ad yX6_movable cX6_movable 4 .int 5 [(.ref (ad (3, 7))), (jI a), (jI x), (jI B)] σ (fun z τ => mvS σ τ a x (otF σ a x) B z) := by
  refine CI.of RX6 hap idsF_nd (by decide) rfl (Nat.le_of_ble_eq_true rfl) ?_
  intro pg ev s0 mi av bl mt cd X K hr
  have hN := h.1.1
  have hn := hN.1
  have hm := hN.2.1
  have hNa := hN.2.2 a ha.1 ha.2
  have ho : (0 ≤ otF σ a x ∧ otF σ a x < σ (0, 0) 0) ∧ x ≠ otF σ a x := by
    unfold otF
    split <;> omega
  refine zr_aloadn X dX6_movable_0 rfl ?_
  refine zr_get X K (C := RX6) (T := TX6) (N := 5) (k := 2) mF_3_7 rfl rfl ti_6 (by decide) rfl tw_181 rfl dX6_movable_1 ?_
  refine zr_aloadn X dX6_movable_4 rfl ?_
  refine zr_get X K (C := RX6) (T := TX6) (N := 5) (k := 1) mF_3_7 rfl rfl ti_6 (by decide) rfl tw_180 rfl dX6_movable_5 ?_
  refine zr_callNV X K (q := (RX3, TX3, 6)) (st := []) (c_X3_copy l D cs ad hap (σ := σ) h) ⟨tn_419, tw_421, tp_20, tw_3, tw_422⟩ dc_X3_copy mF_7_0 rfl rfl rfl rfl rfl (Nat.le_of_ble_eq_true rfl) (by decide) dX6_movable_8 ?_
  intro υ hcp
  refine zr_aloadn X dX6_movable_11 rfl ?_
  refine zr_get X K (C := RX6) (T := TX6) (N := 5) (k := 2) mF_3_7 rfl rfl ti_6 (by decide) rfl tw_181 rfl dX6_movable_12 ?_
  refine zr_getN X K (v := (.ref (ad (7, 1)))) (C := RX3) (T := TX3) (N := 6) (k := 1) mF_7_0 rfl rfl ti_3 (by decide) rfl tn_124 rfl dX6_movable_15 ?_
  refine zr_iloadn X dX6_movable_18 rfl ?_
  refine zr_callNV X K (q := (RX1, TX1, 3)) (st := []) (c_X1_block l D cs ad hap (b := 1) (by decide) (σ := υ) (a := a) ⟨ha.1, by omega⟩) ⟨tn_443, tw_445, tp_23, tw_4, tw_446⟩ dc_X1_block mF_7_1 rfl rfl rfl rfl rfl (Nat.le_of_ble_eq_true rfl) (by decide) dX6_movable_19 ?_
  intro ω hbl
  have hbl : ω = mset (mset υ (7, 2) a 0) (7, 3) a 0 := hbl
  have hp := mv_pre h ha hcp hbl
  have w0 : ω (0, 0) = σ (0, 0) := hp.2.1 0 0 (by decide)
  have w1 : ω (0, 1) = σ (0, 1) := hp.2.1 0 1 (by decide)
  have w2 : ω (0, 2) = σ (0, 2) := hp.2.1 0 2 (by decide)
  have w3 : ω (0, 3) = σ (0, 3) := hp.2.1 0 3 (by decide)
  have wo : otF ω a x = otF σ a x := by
    unfold otF
    rw [w2, w3]
  refine zr_aloadn X dX6_movable_22 rfl ?_
  refine zr_get X K (C := RX6) (T := TX6) (N := 5) (k := 2) mF_3_7 rfl rfl ti_6 (by decide) rfl tw_181 rfl dX6_movable_23 ?_
  refine zr_getN X K (v := (.ref (ad (7, 4)))) (C := RX3) (T := TX3) (N := 6) (k := 2) mF_7_0 rfl rfl ti_3 (by decide) rfl tn_126 rfl dX6_movable_26 ?_
  refine zr_iloadn X dX6_movable_29 rfl ?_
  refine zr_aloadn X dX6_movable_30 rfl ?_
  refine zr_get X K (C := RX6) (T := TX6) (N := 5) (k := 0) mF_3_7 rfl rfl ti_6 (by decide) rfl tw_179 rfl dX6_movable_31 ?_
  refine zr_iloadn X dX6_movable_34 rfl ?_
  refine zr_iloadn X dX6_movable_35 rfl ?_
  refine zr_callNI X K (q := (RX4, TX4, 6)) (st := [(jI x), (.ref (ad (7, 4)))]) (c_X4_otherEnd l D cs ad hap (σ := ω) hp.1.1 (a := a) (v := x) (by rw [w1]; exact ha) (by omega)) ⟨tn_447, tw_316, tp_7, tw_2, tw_317⟩ dc_X4_otherEnd mF_0_0 rfl rfl rfl rfl rfl (Nat.le_of_ble_eq_true rfl) (by decide) dX6_movable_36 ?_
  intro z_ τ_ hp_
  obtain ⟨hτ_, hz_⟩ := hp_
  subst τ_
  subst z_
  refine zr_iloadn X dX6_movable_39 rfl ?_
  refine zr_callNI X K (q := (RX5, TX5, 7)) (st := []) (c_X5_route l D cs ad hap (b := 1) (by decide) (σ := ω) hp.1.1 hp.1.2.1 hp.1.2.2 (s := x) (t := otF ω a x) (B := B) (by rw [w0]; omega) (by rw [w0, wo]; omega) hB) ⟨tn_448, tw_301, tp_4, tw_5, tw_302⟩ dc_X5_route mF_7_4 rfl rfl rfl rfl rfl (Nat.le_of_ble_eq_true rfl) (by decide) dX6_movable_40 ?_
  intro z τ hrt
  rw [wo] at hrt
  refine zr_iret X hr dX6_movable_43 ?_
  exact mv_of h ha hcp hbl (by omega) ho.1.1 ho.2 hrt

set_option maxHeartbeats 4000000 in
set_option maxRecDepth 100000 in
theorem c_X6_leastFlow (l : Launch) (D : va_G) (cs : Nat → ClassId) (ad : Ix → Nat) (hap : Apart idsF ad) (hl : l.stackTraces = false) {σ : Mem} (h : fnOk σ) {a : Int} (ha : rg a) (sz : Nat) : CXI l D cs idsF ad yX6_leastFlow cX6_leastFlow 4 .int 7 8 48 sz [(.ref (ad (3, 7))), (jI a)] σ (fun z τ => fnOk τ ∧ keepQ σ τ ∧ endsYes σ 0 ∧ (0 ≤ a ∧ a < σ (0, 1) 0) ∧ leS σ a z) ((fun E => (E = ISE ∧ endsNo σ 0) ∨ (endsYes σ 0 ∧ E = IOB ∧ ¬ (0 ≤ a ∧ a < σ (0, 1) 0)))) := by
  refine CXI.of RX6 hl hap idsF_nd (by decide) rfl (Nat.le_of_ble_eq_true rfl) ?_
  intro pg ev s0 mi av bl mt cd X K T hr
  have hN := h.net
  have hn := hN.1
  have hm := hN.2.1
  refine zr_aloadn X dX6_leastFlow_0 rfl ?_
  refine zr_xcallVV X K T (q := (RX6, TX6, 5)) (st := []) (fun sz => c_X6_requireEnds l D cs ad hap hl (σ := σ) hN h.ends sz) ⟨tw_382, tw_384, tp_16, tw_1, tw_385⟩ dc_X6_requireEnds mF_3_7 rfl rfl rfl rfl rfl (Nat.le_of_ble_eq_true rfl) (by decide) dX6_leastFlow_1 ⟨by decide, by decide⟩ (fun E h => Or.inl h) ?_
  intro τ_ hp_
  obtain ⟨hτ_, hEy⟩ := hp_
  subst τ_
  refine zr_aloadn X dX6_leastFlow_4 rfl ?_
  refine zr_iloadn X dX6_leastFlow_5 rfl ?_
  refine zr_xcallVV X K T (q := (RX6, TX6, 5)) (st := []) (fun sz => c_X6_requireArc l D cs ad hap hl (σ := σ) hN (v := a) ha sz) ⟨tw_199, tw_201, tp_0, tw_1, tw_202⟩ dc_X6_requireArc mF_3_7 rfl rfl rfl rfl rfl (Nat.le_of_ble_eq_true rfl) (by decide) dX6_leastFlow_6 ⟨by decide, by decide⟩ (fun E h => Or.inr ⟨hEy, h⟩) ?_
  intro τ_ hp_
  obtain ⟨hτ_, hA⟩ := hp_
  subst τ_
  refine zr_aloadn X dX6_leastFlow_9 rfl ?_
  refine zr_get X K (C := RX6) (T := TX6) (N := 5) (k := 1) mF_3_7 rfl rfl ti_6 (by decide) rfl tw_180 rfl dX6_leastFlow_10 ?_
  refine zr_callNV X K (q := (RX3, TX3, 6)) (st := []) (c_X3_settle l D cs ad hap (b := 0) (by decide) (σ := σ) h.1 hEy (cut_0 h hEy)) ⟨tn_438, tw_412, tp_19, tw_3, tw_413⟩ dc_X3_settle mF_6_0 rfl rfl rfl rfl rfl (Nat.le_of_ble_eq_true rfl) (by decide) dX6_leastFlow_13 ?_
  intro σ1 hst
  have hk := st_keep h hst
  have e1 : σ1 (0, 1) = σ (0, 1) := hk.2.1 0 1 (by decide)
  have hN1 := hk.1.net
  have hA1 : 0 ≤ a ∧ a < σ1 (0, 1) 0 := by rw [e1]; exact hA
  have hNa := hN1.2.2 a hA1.1 hA1.2
  have hn1 := hN1.1
  have hfa : 0 ≤ σ1 (6, 3) a ∧ σ1 (6, 3) a ≤ σ1 (6, 2) a := ⟨(hst.1.1.2.2 a hA1.1 hA1.2).1, (hst.1.1.2.2 a hA1.1 hA1.2).2.1⟩
  have hca := hk.1.2.1 a hA1.1 (by omega)
  have hot : otF σ1 a (σ1 (0, 2) a) = σ1 (0, 3) a := if_pos rfl
  have hoh : otF σ1 a (σ1 (0, 3) a) = σ1 (0, 2) a := if_neg (by omega)
  refine zr_aloadn X dX6_leastFlow_16 rfl ?_
  refine zr_get X K (C := RX6) (T := TX6) (N := 5) (k := 0) mF_3_7 rfl rfl ti_6 (by decide) rfl tw_179 rfl dX6_leastFlow_17 ?_
  refine zr_getN X K (C := RX4) (T := TX4) (N := 6) (k := 2) mF_0_0 rfl rfl ti_4 (by decide) rfl tn_44 rfl dX6_leastFlow_20 ?_
  refine zr_iloadn X dX6_leastFlow_23 rfl ?_
  refine zr_iald X K (n := 80) mF_0_2 rfl (by decide) (by omega) dX6_leastFlow_24 ?_
  refine zr_istoren X dX6_leastFlow_25 (by decide) rfl ?_
  refine zr_aloadn X dX6_leastFlow_26 rfl ?_
  refine zr_get X K (C := RX6) (T := TX6) (N := 5) (k := 1) mF_3_7 rfl rfl ti_6 (by decide) rfl tw_180 rfl dX6_leastFlow_27 ?_
  refine zr_getN X K (v := (.ref (ad (6, 1)))) (C := RX3) (T := TX3) (N := 6) (k := 1) mF_6_0 rfl rfl ti_3 (by decide) rfl tn_124 rfl dX6_leastFlow_30 ?_
  refine zr_getN X K (v := (.ref (ad (6, 3)))) (C := RX1) (T := TX1) (N := 3) (k := 2) mF_6_1 rfl rfl ti_1 (by decide) rfl tn_86 rfl dX6_leastFlow_33 ?_
  refine zr_iloadn X dX6_leastFlow_36 rfl ?_
  refine zr_iald X K (n := 80) mF_6_3 rfl (by decide) (by omega) dX6_leastFlow_37 ?_
  refine zr_istoren X dX6_leastFlow_38 (by decide) rfl ?_
  refine zr_iloadn X dX6_leastFlow_39 rfl ?_
  refine zr_aloadn X dX6_leastFlow_40 rfl ?_
  refine zr_iloadn X dX6_leastFlow_41 rfl ?_
  refine zr_iloadn X dX6_leastFlow_42 rfl ?_
  refine zr_iloadn X dX6_leastFlow_43 rfl ?_
  refine zr_callVI X K (q := (RX6, TX6, 5)) (st := [(jI (σ1 (6, 3) a))]) (c_X6_movable l D cs ad hap (σ := σ1) hk.1.1 (a := a) (x := σ1 (0, 2) a) (B := σ1 (6, 3) a) hA1 (Or.inl rfl) ⟨⟨by omega, by omega⟩, by omega⟩) ⟨tw_439, tw_441, tp_22, tw_1, tw_442⟩ dc_X6_movable mF_3_7 rfl rfl rfl rfl rfl (Nat.le_of_ble_eq_true rfl) (by decide) dX6_leastFlow_44 ?_
  intro z τ hmv
  rw [hot] at hmv
  refine zr_isub X dX6_leastFlow_47 ?_
  refine zr_xiret X ⟨by decide, by decide⟩ hr dX6_leastFlow_48 ?_
  have hk2 := mv_keep hk.1 hmv
  exact ⟨hk2.1, hk.2.tr hk2.2, hEy, hA, le_of h hEy hst hA hmv⟩

set_option maxHeartbeats 4000000 in
set_option maxRecDepth 100000 in
theorem c_X6_greatestFlow (l : Launch) (D : va_G) (cs : Nat → ClassId) (ad : Ix → Nat) (hap : Apart idsF ad) (hl : l.stackTraces = false) {σ : Mem} (h : fnOk σ) {a : Int} (ha : rg a) (sz : Nat) : CXI l D cs idsF ad yX6_greatestFlow cX6_greatestFlow 4 .int 7 8 48 sz [(.ref (ad (3, 7))), (jI a)] σ (fun z τ => fnOk τ ∧ keepQ σ τ ∧ endsYes σ 0 ∧ (0 ≤ a ∧ a < σ (0, 1) 0) ∧ gfS σ a z) ((fun E => (E = ISE ∧ endsNo σ 0) ∨ (endsYes σ 0 ∧ E = IOB ∧ ¬ (0 ≤ a ∧ a < σ (0, 1) 0)))) := by
  refine CXI.of RX6 hl hap idsF_nd (by decide) rfl (Nat.le_of_ble_eq_true rfl) ?_
  intro pg ev s0 mi av bl mt cd X K T hr
  have hN := h.net
  have hn := hN.1
  have hm := hN.2.1
  refine zr_aloadn X dX6_greatestFlow_0 rfl ?_
  refine zr_xcallVV X K T (q := (RX6, TX6, 5)) (st := []) (fun sz => c_X6_requireEnds l D cs ad hap hl (σ := σ) hN h.ends sz) ⟨tw_382, tw_384, tp_16, tw_1, tw_385⟩ dc_X6_requireEnds mF_3_7 rfl rfl rfl rfl rfl (Nat.le_of_ble_eq_true rfl) (by decide) dX6_greatestFlow_1 ⟨by decide, by decide⟩ (fun E h => Or.inl h) ?_
  intro τ_ hp_
  obtain ⟨hτ_, hEy⟩ := hp_
  subst τ_
  refine zr_aloadn X dX6_greatestFlow_4 rfl ?_
  refine zr_iloadn X dX6_greatestFlow_5 rfl ?_
  refine zr_xcallVV X K T (q := (RX6, TX6, 5)) (st := []) (fun sz => c_X6_requireArc l D cs ad hap hl (σ := σ) hN (v := a) ha sz) ⟨tw_199, tw_201, tp_0, tw_1, tw_202⟩ dc_X6_requireArc mF_3_7 rfl rfl rfl rfl rfl (Nat.le_of_ble_eq_true rfl) (by decide) dX6_greatestFlow_6 ⟨by decide, by decide⟩ (fun E h => Or.inr ⟨hEy, h⟩) ?_
  intro τ_ hp_
  obtain ⟨hτ_, hA⟩ := hp_
  subst τ_
  refine zr_aloadn X dX6_greatestFlow_9 rfl ?_
  refine zr_get X K (C := RX6) (T := TX6) (N := 5) (k := 1) mF_3_7 rfl rfl ti_6 (by decide) rfl tw_180 rfl dX6_greatestFlow_10 ?_
  refine zr_callNV X K (q := (RX3, TX3, 6)) (st := []) (c_X3_settle l D cs ad hap (b := 0) (by decide) (σ := σ) h.1 hEy (cut_0 h hEy)) ⟨tn_438, tw_412, tp_19, tw_3, tw_413⟩ dc_X3_settle mF_6_0 rfl rfl rfl rfl rfl (Nat.le_of_ble_eq_true rfl) (by decide) dX6_greatestFlow_13 ?_
  intro σ1 hst
  have hk := st_keep h hst
  have e1 : σ1 (0, 1) = σ (0, 1) := hk.2.1 0 1 (by decide)
  have hN1 := hk.1.net
  have hA1 : 0 ≤ a ∧ a < σ1 (0, 1) 0 := by rw [e1]; exact hA
  have hNa := hN1.2.2 a hA1.1 hA1.2
  have hn1 := hN1.1
  have hfa : 0 ≤ σ1 (6, 3) a ∧ σ1 (6, 3) a ≤ σ1 (6, 2) a := ⟨(hst.1.1.2.2 a hA1.1 hA1.2).1, (hst.1.1.2.2 a hA1.1 hA1.2).2.1⟩
  have hca := hk.1.2.1 a hA1.1 (by omega)
  have hot : otF σ1 a (σ1 (0, 2) a) = σ1 (0, 3) a := if_pos rfl
  have hoh : otF σ1 a (σ1 (0, 3) a) = σ1 (0, 2) a := if_neg (by omega)
  refine zr_aloadn X dX6_greatestFlow_16 rfl ?_
  refine zr_get X K (C := RX6) (T := TX6) (N := 5) (k := 0) mF_3_7 rfl rfl ti_6 (by decide) rfl tw_179 rfl dX6_greatestFlow_17 ?_
  refine zr_getN X K (C := RX4) (T := TX4) (N := 6) (k := 2) mF_0_0 rfl rfl ti_4 (by decide) rfl tn_44 rfl dX6_greatestFlow_20 ?_
  refine zr_iloadn X dX6_greatestFlow_23 rfl ?_
  refine zr_iald X K (n := 80) mF_0_2 rfl (by decide) (by omega) dX6_greatestFlow_24 ?_
  refine zr_istoren X dX6_greatestFlow_25 (by decide) rfl ?_
  refine zr_aloadn X dX6_greatestFlow_26 rfl ?_
  refine zr_get X K (C := RX6) (T := TX6) (N := 5) (k := 0) mF_3_7 rfl rfl ti_6 (by decide) rfl tw_179 rfl dX6_greatestFlow_27 ?_
  refine zr_getN X K (C := RX4) (T := TX4) (N := 6) (k := 3) mF_0_0 rfl rfl ti_4 (by decide) rfl tn_49 rfl dX6_greatestFlow_30 ?_
  refine zr_iloadn X dX6_greatestFlow_33 rfl ?_
  refine zr_iald X K (n := 80) mF_0_3 rfl (by decide) (by omega) dX6_greatestFlow_34 ?_
  refine zr_istoren X dX6_greatestFlow_35 (by decide) rfl ?_
  refine zr_aloadn X dX6_greatestFlow_36 rfl ?_
  refine zr_get X K (C := RX6) (T := TX6) (N := 5) (k := 1) mF_3_7 rfl rfl ti_6 (by decide) rfl tw_180 rfl dX6_greatestFlow_37 ?_
  refine zr_getN X K (v := (.ref (ad (6, 1)))) (C := RX3) (T := TX3) (N := 6) (k := 1) mF_6_0 rfl rfl ti_3 (by decide) rfl tn_124 rfl dX6_greatestFlow_40 ?_
  refine zr_getN X K (v := (.ref (ad (6, 3)))) (C := RX1) (T := TX1) (N := 3) (k := 2) mF_6_1 rfl rfl ti_1 (by decide) rfl tn_86 rfl dX6_greatestFlow_43 ?_
  refine zr_iloadn X dX6_greatestFlow_46 rfl ?_
  refine zr_iald X K (n := 80) mF_6_3 rfl (by decide) (by omega) dX6_greatestFlow_47 ?_
  refine zr_aloadn X dX6_greatestFlow_48 rfl ?_
  refine zr_iloadn X dX6_greatestFlow_49 rfl ?_
  refine zr_iloadn X dX6_greatestFlow_50 rfl ?_
  refine zr_aloadn X dX6_greatestFlow_51 rfl ?_
  refine zr_get X K (C := RX6) (T := TX6) (N := 5) (k := 1) mF_3_7 rfl rfl ti_6 (by decide) rfl tw_180 rfl dX6_greatestFlow_52 ?_
  refine zr_getN X K (v := (.ref (ad (6, 1)))) (C := RX3) (T := TX3) (N := 6) (k := 1) mF_6_0 rfl rfl ti_3 (by decide) rfl tn_124 rfl dX6_greatestFlow_55 ?_
  refine zr_iloadn X dX6_greatestFlow_58 rfl ?_
  refine zr_iloadn X dX6_greatestFlow_59 rfl ?_
  refine zr_callNI X K (q := (RX1, TX1, 3)) (st := [(jI (σ1 (0, 3) a)), (jI a), (.ref (ad (3, 7))), (jI (σ1 (6, 3) a))]) (c_X1_room l D cs ad hap (b := 0) (by decide) (σ := σ1) hN1 (a := a) (v := σ1 (0, 2) a) hA1 (by omega)) ⟨tn_453, tw_320, tp_8, tw_4, tw_321⟩ dc_X1_room mF_6_1 rfl rfl rfl rfl rfl (Nat.le_of_ble_eq_true rfl) (by decide) dX6_greatestFlow_60 ?_
  intro z_ τ_ hp_
  obtain ⟨hτ_, hz_⟩ := hp_
  subst τ_
  subst z_
  have hrm : rmF σ1 0 a (σ1 (0, 2) a) = σ1 (6, 2) a - σ1 (6, 3) a := rmF_t
  rw [hrm]
  refine zr_callVI X K (q := (RX6, TX6, 5)) (st := [(jI (σ1 (6, 3) a))]) (c_X6_movable l D cs ad hap (σ := σ1) hk.1.1 (a := a) (x := σ1 (0, 3) a) (B := σ1 (6, 2) a - σ1 (6, 3) a) hA1 (Or.inr rfl) ⟨⟨by omega, by omega⟩, by omega⟩) ⟨tw_439, tw_441, tp_22, tw_1, tw_442⟩ dc_X6_movable mF_3_7 rfl rfl rfl rfl rfl (Nat.le_of_ble_eq_true rfl) (by decide) dX6_greatestFlow_63 ?_
  intro z τ hmv
  rw [hoh] at hmv
  refine zr_iadd X dX6_greatestFlow_66 ?_
  refine zr_xiret X ⟨by decide, by decide⟩ hr dX6_greatestFlow_67 ?_
  have hk2 := mv_keep hk.1 hmv
  exact ⟨hk2.1, hk.2.tr hk2.2, hEy, hA, gf_of h hEy hst hA hmv⟩
