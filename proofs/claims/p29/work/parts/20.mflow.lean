/-! THE MAXIMUM FLOW -/
theorem mf_net {σ : Mem} {b : Nat} (h : mfOk σ b) : NetOk σ ∧ AdjOk σ ∧ FlOk σ b := h.1
theorem ends_rg {σ : Mem} {b : Nat} (hN : NetOk σ) (h : endsNo σ b ∨ endsYes σ b) : (-1 ≤ σ (b + 6, 8) 0 ∧ σ (b + 6, 8) 0 < 24) ∧ -1 ≤ σ (b + 6, 9) 0 ∧ σ (b + 6, 9) 0 < 24 := by
  have := hN.1
  unfold endsNo endsYes at h
  omega
/-- settled: a maximum flow stands, the rest as before -/
def stP (σ τ : Mem) (b : Nat) : Prop := mfOk τ b ∧ τ (b + 6, 10) 0 = 1 ∧ Fr b [3, 5, 6, 7, 10, 11, 12] σ τ
def cut8 (σ : Mem) (b : Nat) : Prop := ∃ X : Int → Bool, X (σ (b + 6, 8) 0) = true ∧ ¬ X (σ (b + 6, 9) 0) = true ∧ cpo σ b X < 100000000
theorem Fr.eno {b : Nat} {L : List Nat} {σ τ : Mem} (h : Fr b L σ τ) (h8 : 8 ∉ L := by decide) (h9 : 9 ∉ L := by decide) (k : endsNo σ b) : endsNo τ b := by
  unfold endsNo at k ⊢
  rw [h.own 8 h8, h.own 9 h9]; exact k
theorem Fr.eye {b : Nat} {L : List Nat} {σ τ : Mem} (h : Fr b L σ τ) (h8 : 8 ∉ L := by decide) (h9 : 9 ∉ L := by decide) (k : endsYes σ b) : endsYes τ b := by
  unfold endsYes at k ⊢
  rw [h.own 8 h8, h.own 9 h9, h.of 0 0]; exact k
theorem not_both {σ : Mem} {b : Nat} (h : endsNo σ b) (k : endsYes σ b) : False := by
  unfold endsNo at h
  unfold endsYes at k
  omega
/-- what a route between the ends makes of a flow -/
theorem st_of {σ σ1 τ : Mem} {b : Nat} {z : Int} (h : mfOk σ b) (hE : endsYes σ b) (hc : cut8 σ b) (k : rtP σ σ1 b (σ (b + 6, 8) 0) (σ (b + 6, 9) 0) 100000000 z) (e : mset σ1 (b + 6, 10) 0 1 = τ) : stP σ τ b := by
  have f1 := rt_fr k
  have f2 : Fr b [10] σ1 τ := by rw [← e]; exact Fr.set (by decide)
  have f3 : Fr b [3, 5, 6, 7, 10, 11, 12] σ τ := (f1.up (by decide)).tr (f2.up (by decide))
  obtain ⟨⟨hN, hA, hF⟩, -, ⟨F, hF0, hV⟩, -, -, -, hz⟩ := h
  have hNτ := f3.net hN
  have hF1 := k.2.1
  have hFτ : FlOk τ b := f2.fl (hN := hF1)
  have e10 : τ (b + 6, 10) 0 = 1 := by rw [← e, mset_same]
  have hV1 : ∀ X, net σ1 b X = ind X (σ (b + 6, 8) 0) (F + z) - ind X (σ (b + 6, 9) 0) (F + z) := fun X => by
    rw [rt_net k, hV X, ind_add, ind_add]; omega
  have hzn := k.1
  have hVτ : mfV τ b (F + z) := fun X => by
    rw [f3.own 8, f3.own 9, net_same (f2.of 0 1) (f2.of 0 2) (f2.of 0 3) (f2.own 3)]
    exact hV1 X
  have hsh : shut τ b := by
    unfold shut
    rw [f3.own 8, f3.own 9]
    rcases k.2.2.2.2.2.2 hE.1.1 hE.2.1.1 hE.2.2 (by decide) with q | ⟨X, x1, x2, x3⟩
    · exfalso
      obtain ⟨X, c1, c2, c3⟩ := hc
      have := net_le (f1.net hN) hF1 X
      rw [hV1 X, ind_t c1, ind_f c2, cpo_same (f1.of 0 1) (f1.of 0 2) (f1.of 0 3) (f1.own 2)] at this
      omega
    · exact ⟨X, x1, x2, clo_same (f2.of 0 1) (f2.of 0 2) (f2.of 0 3) (f2.own 2) (f2.own 3) x3⟩
  have hEτ := f3.eye (k := hE)
  have h3 : ∀ a, σ (0, 1) 0 ≤ a → a < 80 → τ (b + 6, 3) a = 0 := fun a a1 a2 => by rw [f3.2 a a1]; exact (hz a a1 a2).2
  refine ⟨⟨⟨hNτ, f3.adj hA, hFτ⟩, Or.inr hEτ, ⟨F + z, by omega, hVτ⟩, fun q => (not_both q hEτ).elim, Or.inr e10, fun _ => ⟨hEτ, hsh⟩, fun a a1 a2 => ?_⟩, e10, f3⟩
  rw [f3.of 0 1] at a1
  rw [f3.own 2]
  exact ⟨(hz a a1 a2).1, h3 a a1 a2⟩

theorem dc_X3_hasEnds : dcl yX3_hasEnds 0 := ⟨by decide, by decide, by decide +kernel⟩
theorem dc_X3_copy : dcl yX3_copy 1 := ⟨by decide, by decide, by decide +kernel⟩
theorem dc_X3_chooseEnds : dcl yX3_chooseEnds 2 := ⟨by decide, by decide, by decide +kernel⟩
theorem dc_X3_changeCapacity : dcl yX3_changeCapacity 2 := ⟨by decide, by decide, by decide +kernel⟩
theorem dc_X3_moveAway : dcl yX3_moveAway 3 := ⟨by decide, by decide, by decide +kernel⟩
theorem dc_X3_settle : dcl yX3_settle 0 := ⟨by decide, by decide, by decide +kernel⟩
theorem dc_X3_greatestValue : dcl yX3_greatestValue 0 := ⟨by decide, by decide, by decide +kernel⟩
theorem dc_X3_smallestMask : dcl yX3_smallestMask 0 := ⟨by decide, by decide, by decide +kernel⟩
theorem dc_X3_greatestMask : dcl yX3_greatestMask 0 := ⟨by decide, by decide, by decide +kernel⟩

set_option maxHeartbeats 4000000 in
set_option maxRecDepth 100000 in
theorem c_X3_hasEnds (l : Launch) (D : va_G) (cs : Nat → ClassId) (ad : Ix → Nat) (hap : Apart idsF ad) {b : Nat} (hb : b < 2) {σ : Mem} (hN : NetOk σ) (hE : endsNo σ b ∨ endsYes σ b) : CI l D cs idsF ad yX3_hasEnds cX3_hasEnds 1 .boolean 0 [(.ref (ad (b + 6, 0)))] σ (fun z τ => τ = σ ∧ ((z = 1 ∧ endsYes σ b) ∨ (z = 0 ∧ endsNo σ b))) := by
  refine CI.of RX3 hap idsF_nd (by decide) rfl (Nat.le_of_ble_eq_true rfl) ?_
  intro pg ev s0 mi av bl mt cd X K hr
  have hg := ends_rg hN hE
  refine zr_aloadn X dX3_hasEnds_0 rfl ?_
  refine zr_get X K (C := RX3) (T := TX3) (N := 6) (k := 3) (mB hb (by decide)) rfl rfl ti_3 (by decide) rfl tw_127 rfl dX3_hasEnds_1 ?_
  refine zr_iconst X dX3_hasEnds_4 ?_
  refine zr_icmp_eq X 20 dX3_hasEnds_5 (by decide) ⟨by omega, by omega⟩ ⟨by omega, by omega⟩ (fun t_5 => ?_) (fun f_5 => ?_)
  · refine zr_iconst X dX3_hasEnds_20 ?_
    refine zr_zret X hr dX3_hasEnds_21 (by omega) ?_
    refine ⟨rfl, ?_⟩
    unfold endsNo endsYes at hE ⊢
    omega
  · refine zr_aloadn X dX3_hasEnds_8 rfl ?_
    refine zr_get X K (C := RX3) (T := TX3) (N := 6) (k := 4) (mB hb (by decide)) rfl rfl ti_3 (by decide) rfl tw_129 rfl dX3_hasEnds_9 ?_
    refine zr_iconst X dX3_hasEnds_12 ?_
    refine zr_icmp_eq X 20 dX3_hasEnds_13 (by decide) ⟨by omega, by omega⟩ ⟨by omega, by omega⟩ (fun t_13 => ?_) (fun f_13 => ?_)
    · refine zr_iconst X dX3_hasEnds_20 ?_
      refine zr_zret X hr dX3_hasEnds_21 (by omega) ?_
      refine ⟨rfl, ?_⟩
      unfold endsNo endsYes at hE ⊢
      omega
    · refine zr_iconst X dX3_hasEnds_16 ?_
      refine zr_goto X 21 dX3_hasEnds_17 (by decide) ?_
      refine zr_zret X hr dX3_hasEnds_21 (by omega) ?_
      refine ⟨rfl, ?_⟩
      unfold endsNo endsYes at hE ⊢
      omega

set_option maxHeartbeats 4000000 in
set_option maxRecDepth 100000 in
theorem c_X3_moveAway (l : Launch) (D : va_G) (cs : Nat → ClassId) (ad : Ix → Nat) (hap : Apart idsF ad) {b : Nat} (hb : b < 2) {σ : Mem} (hN : NetOk σ) (hA : AdjOk σ) (hF : FlOk σ b) (hE : endsYes σ b) {F x y S : Int} (hF0 : 0 ≤ F) (hx : 0 ≤ x ∧ x < σ (0, 0) 0) (hy : 0 ≤ y ∧ y < σ (0, 0) 0) (hxy : x ≠ y) (hS : 0 < S ∧ S ≤ 100000000) (h : mvI σ b F x y S) : CV l D cs idsF ad yX3_moveAway cX3_moveAway 5 4 [(.ref (ad (b + 6, 0))), (jI x), (jI y), (jI S)] σ (fun τ => FlOk τ b ∧ Fr b [3, 5, 6, 7, 11, 12] σ τ ∧ ∃ F, 0 ≤ F ∧ mfV τ b F) := by
  refine CV.of RX3 hap idsF_nd (by decide) rfl (Nat.le_of_ble_eq_true rfl) ?_
  intro pg ev s0 mi av bl mt cd X K hr
  have hn := hN.1
  have hE2 := hE.1
  have hE3 := hE.2.1
  refine zr_iloadn X dX3_moveAway_0 rfl ?_
  refine zr_aloadn X dX3_moveAway_1 rfl ?_
  refine zr_get X K (C := RX3) (T := TX3) (N := 6) (k := 2) (mB hb (by decide)) rfl rfl ti_3 (by decide) rfl tw_125 rfl dX3_moveAway_2 ?_
  refine zr_iloadn X dX3_moveAway_5 rfl ?_
  refine zr_iloadn X dX3_moveAway_6 rfl ?_
  refine zr_iloadn X dX3_moveAway_7 rfl ?_
  refine zr_callNI X K (q := (RX5, TX5, 7)) (st := [(jI S)]) (c_X5_route l D cs ad hap hb (σ := σ) hN hA hF (s := x) (t := y) (B := S) (by omega) (by omega) ⟨⟨by omega, by omega⟩, by omega⟩) ⟨tn_299, tw_301, tp_4, tw_5, tw_302⟩ dc_X5_route (mB hb (by decide)) rfl rfl rfl rfl rfl (Nat.le_of_ble_eq_true rfl) (by decide) dX3_moveAway_8 ?_
  intro z1 τ1 hp1
  have f1 := rt_fr hp1
  have hz1 := hp1.1
  have hz2 := hp1.2.2.2.2.2.1 hS.1
  refine zr_isub X dX3_moveAway_11 ?_
  refine zr_istore X dX3_moveAway_12 (by decide) rfl ?_
  refine zr_aloadn X dX3_moveAway_14 rfl ?_
  refine zr_get X K (C := RX3) (T := TX3) (N := 6) (k := 2) (mB hb (by decide)) rfl rfl ti_3 (by decide) rfl tw_125 rfl dX3_moveAway_15 ?_
  refine zr_iloadn X dX3_moveAway_18 rfl ?_
  refine zr_aloadn X dX3_moveAway_19 rfl ?_
  refine zr_get X K (C := RX3) (T := TX3) (N := 6) (k := 3) (mB hb (by decide)) rfl rfl ti_3 (by decide) rfl tw_127 rfl dX3_moveAway_20 ?_
  refine zr_iload X dX3_moveAway_23 rfl ?_
  refine zr_callNI X K (q := (RX5, TX5, 7)) (st := []) (c_X5_route l D cs ad hap hb (σ := τ1) (f1.net hN) (f1.adj hA) hp1.2.1 (s := x) (t := τ1 (b + 6, 8) 0) (B := S - z1) (by rw [f1.of 0 0]; omega) (by rw [f1.own 8, f1.of 0 0]; omega) ⟨⟨by omega, by omega⟩, by omega⟩) ⟨tn_299, tw_301, tp_4, tw_5, tw_302⟩ dc_X5_route (mB hb (by decide)) rfl rfl rfl rfl rfl (Nat.le_of_ble_eq_true rfl) (by decide) dX3_moveAway_25 ?_
  intro z2 τ2 hp2
  have f2 := f1.tr (rt_fr hp2)
  refine zr_pop X dX3_moveAway_28 rfl ?_
  refine zr_aloadn X dX3_moveAway_29 rfl ?_
  refine zr_get X K (C := RX3) (T := TX3) (N := 6) (k := 2) (mB hb (by decide)) rfl rfl ti_3 (by decide) rfl tw_125 rfl dX3_moveAway_30 ?_
  refine zr_aloadn X dX3_moveAway_33 rfl ?_
  refine zr_get X K (C := RX3) (T := TX3) (N := 6) (k := 4) (mB hb (by decide)) rfl rfl ti_3 (by decide) rfl tw_129 rfl dX3_moveAway_34 ?_
  refine zr_iloadn X dX3_moveAway_37 rfl ?_
  refine zr_iload X dX3_moveAway_38 rfl ?_
  refine zr_callNI X K (q := (RX5, TX5, 7)) (st := []) (c_X5_route l D cs ad hap hb (σ := τ2) (f2.net hN) (f2.adj hA) hp2.2.1 (s := τ2 (b + 6, 9) 0) (t := y) (B := S - z1) (by rw [f2.own 9, f2.of 0 0]; omega) (by rw [f2.of 0 0]; omega) ⟨⟨by omega, by omega⟩, by omega⟩) ⟨tn_299, tw_301, tp_4, tw_5, tw_302⟩ dc_X5_route (mB hb (by decide)) rfl rfl rfl rfl rfl (Nat.le_of_ble_eq_true rfl) (by decide) dX3_moveAway_40 ?_
  intro z3 τ3 hp3
  have f3 := f2.tr (rt_fr hp3)
  refine zr_pop X dX3_moveAway_43 rfl ?_
  refine zr_vret X hr dX3_moveAway_44 ?_
  rw [f1.own 8] at hp2
  rw [f2.own 9] at hp3
  exact ⟨hp3.2.1, f3, mv_all hN hE hF0 hS.1 hx.1 hy.1 hxy h hp1 hp2 hp3⟩

/-- a new capacity of one arc -/
def ccP (σ τ : Mem) (b : Nat) (a c : Int) : Prop := mfOk τ b ∧ Fr b [2, 3, 5, 6, 7, 10, 11, 12] σ τ ∧ ∀ j, τ (b + 6, 2) j = if j = a then c else σ (b + 6, 2) j
theorem cc_same {σ : Mem} {b : Nat} {a c : Int} (h : mfOk σ b) (e : σ (b + 6, 2) a = c) : ccP σ σ b a c := ⟨h, Fr.rf, fun j => by
  by_cases q : j = a
  · rw [if_pos q, q]; exact e
  · rw [if_neg q]⟩
theorem cc_low {σ σ1 τ : Mem} {b : Nat} {a c : Int} (h : mfOk σ b) (ha : 0 ≤ a ∧ a < σ (0, 1) 0) (hc : 0 ≤ c ∧ c ≤ 100000000) (e1 : mset σ (b + 6, 2) a c = σ1) (e2 : mset σ1 (b + 6, 10) 0 0 = τ) (hs : σ (b + 6, 3) a ≤ c) : ccP σ τ b a c := by
  have f1 : Fr b [2] σ σ1 := by rw [← e1]; exact Fr.set (by decide)
  have f2 : Fr b [10] σ1 τ := by rw [← e2]; exact Fr.set (by decide)
  have f : Fr b [2, 10] σ τ := (f1.up (by decide)).tr (f2.up (by decide))
  have k2 : ∀ j, τ (b + 6, 2) j = if j = a then c else σ (b + 6, 2) j := fun j => by rw [f2.own 2, ← e1, mset_at]
  have k10 : τ (b + 6, 10) 0 = 0 := by rw [← e2, mset_same]
  obtain ⟨⟨hN, hA, hF⟩, hE, ⟨F, hF0, hV⟩, h0, -, -, hz⟩ := h
  refine ⟨⟨⟨f.net hN, f.adj hA, fun j j1 j2 => ?_⟩, hE.elim (fun q => Or.inl (f.eno (k := q))) (fun q => Or.inr (f.eye (k := q))), ⟨F, hF0, fun X => ?_⟩, fun q a a1 a2 => ?_, Or.inl k10, fun q => by omega, fun j j1 j2 => ?_⟩, f.up (by decide), k2⟩
  · rw [f.of 0 1] at j2
    rw [k2 j, f.own 3]
    have := hF j j1 j2
    by_cases q : j = a
    · rw [if_pos q]; rw [q] at this ⊢; omega
    · rw [if_neg q]; exact this
  · rw [net_same (f.of 0 1) (f.of 0 2) (f.of 0 3) (f.own 3), f.own 8, f.own 9]; exact hV X
  · rw [f.own 3]
    rw [f.of 0 1] at a2
    have q' : endsNo σ b := by
      unfold endsNo at q ⊢
      rw [f.own 8, f.own 9] at q; exact q
    exact h0 q' a a1 a2
  · rw [f.of 0 1] at j1
    rw [k2 j, f.own 3, if_neg (by omega)]
    exact hz j j1 j2
theorem cc_mid {σ σ1 σ2 σ3 : Mem} {b : Nat} {a c : Int} (h : mfOk σ b) (ha : 0 ≤ a ∧ a < σ (0, 1) 0) (hc : 0 ≤ c ∧ c ≤ 100000000) (e1 : mset σ (b + 6, 2) a c = σ1) (e2 : mset σ1 (b + 6, 10) 0 0 = σ2) (e3 : mset σ2 (b + 6, 3) a c = σ3) (hs : c < σ (b + 6, 3) a) : Fr b [2, 3, 10] σ σ3 ∧ FlOk σ3 b ∧ endsYes σ3 b ∧ (∃ F, 0 ≤ F ∧ mvI σ3 b F (σ (0, 2) a) (σ (0, 3) a) (σ (b + 6, 3) a - c)) ∧ (∀ j, σ3 (b + 6, 2) j = if j = a then c else σ (b + 6, 2) j) ∧ σ3 (b + 6, 10) 0 = 0 := by
  have f1 : Fr b [2] σ σ1 := by rw [← e1]; exact Fr.set (by decide)
  have f2 : Fr b [10] σ1 σ2 := by rw [← e2]; exact Fr.set (by decide)
  have f12 : Fr b [2, 10] σ σ2 := (f1.up (by decide)).tr (f2.up (by decide))
  have f3 : Fr b [3] σ2 σ3 := by rw [← e3]; exact Fr.set3 (by decide) (by rw [f12.of 0 1]; exact ha.2)
  have f : Fr b [2, 3, 10] σ σ3 := (f12.up (by decide)).tr (f3.up (by decide))
  have k2 : ∀ j, σ3 (b + 6, 2) j = if j = a then c else σ (b + 6, 2) j := fun j => by rw [f3.own 2, f2.own 2, ← e1, mset_at]
  have k3 : ∀ j, σ3 (b + 6, 3) j = if j = a then c else σ (b + 6, 3) j := fun j => by rw [← e3, mset_at, f12.own 3]
  have k10 : σ3 (b + 6, 10) 0 = 0 := by rw [f3.own 10, ← e2, mset_same]
  obtain ⟨⟨hN, hA, hF⟩, hE, ⟨F, hF0, hV⟩, h0, -, -, hz⟩ := h
  have hY : endsYes σ b := by
    rcases hE with q | q
    · have := h0 q a ha.1 ha.2
      omega
    · exact q
  refine ⟨f, fun j j1 j2 => ?_, f.eye (k := hY), ⟨F, hF0, mv_start ha hV (f.of 0 1) (f.of 0 2) (f.of 0 3) (f.own 8) (f.own 9) k3⟩, k2, k10⟩
  rw [f.of 0 1] at j2
  rw [k2 j, k3 j]
  have := hF j j1 j2
  by_cases q : j = a
  · rw [if_pos q, if_pos q]; omega
  · rw [if_neg q, if_neg q]; exact this
theorem cc_end {σ σ3 τ : Mem} {b : Nat} {a c : Int} (h : mfOk σ b) (ha : 0 ≤ a ∧ a < σ (0, 1) 0) (f : Fr b [2, 3, 10] σ σ3) (hY : endsYes σ3 b) (k2 : ∀ j, σ3 (b + 6, 2) j = if j = a then c else σ (b + 6, 2) j) (k10 : σ3 (b + 6, 10) 0 = 0) (hp : FlOk τ b ∧ Fr b [3, 5, 6, 7, 11, 12] σ3 τ ∧ ∃ F, 0 ≤ F ∧ mfV τ b F) : ccP σ τ b a c := by
  obtain ⟨p1, p2, p3⟩ := hp
  have g : Fr b [2, 3, 5, 6, 7, 10, 11, 12] σ τ := (f.up (by decide)).tr (p2.up (by decide))
  obtain ⟨⟨hN, hA, hF⟩, hE, -, h0, -, -, hz⟩ := h
  have hYτ := p2.eye (k := hY)
  refine ⟨⟨⟨g.net hN, g.adj hA, p1⟩, Or.inr hYτ, p3, fun q => (not_both q hYτ).elim, Or.inl (by rw [p2.own 10]; exact k10), fun q => ?_, fun j j1 j2 => ?_⟩, g, fun j => by rw [p2.own 2]; exact k2 j⟩
  · rw [p2.own 10] at q
    omega
  · rw [g.of 0 1] at j1
    rw [p2.own 2, k2 j, if_neg (by omega), g.2 j j1]
    exact hz j j1 j2

set_option maxHeartbeats 4000000 in
set_option maxRecDepth 100000 in
theorem c_X3_changeCapacity (l : Launch) (D : va_G) (cs : Nat → ClassId) (ad : Ix → Nat) (hap : Apart idsF ad) {b : Nat} (hb : b < 2) {σ : Mem} (h : mfOk σ b) {a c : Int} (ha : 0 ≤ a ∧ a < σ (0, 1) 0) (hc : 0 ≤ c ∧ c ≤ 100000000) : CV l D cs idsF ad yX3_changeCapacity cX3_changeCapacity 4 5 [(.ref (ad (b + 6, 0))), (jI a), (jI c)] σ (fun τ => ccP σ τ b a c) := by
  refine CV.of RX3 hap idsF_nd (by decide) rfl (Nat.le_of_ble_eq_true rfl) ?_
  intro pg ev s0 mi av bl mt cd X K hr
  have hN := h.1.1
  have hm := hN.2.1
  have hf := h.1.2.2 a ha.1 ha.2
  refine zr_aloadn X dX3_changeCapacity_0 rfl ?_
  refine zr_get X K (C := RX3) (T := TX3) (N := 6) (k := 1) (mB hb (by decide)) rfl rfl ti_3 (by decide) rfl tw_123 rfl dX3_changeCapacity_1 ?_
  refine zr_getN X K (C := RX1) (T := TX1) (N := 3) (k := 1) (mB hb (by decide)) rfl rfl ti_1 (by decide) rfl tn_83 rfl dX3_changeCapacity_4 ?_
  refine zr_iloadn X dX3_changeCapacity_7 rfl ?_
  refine zr_iald X K (n := 80) (mB hb (by decide)) rfl (by decide) (by omega) dX3_changeCapacity_8 ?_
  refine zr_iloadn X dX3_changeCapacity_9 rfl ?_
  refine zr_icmp_ne X 14 dX3_changeCapacity_10 (by decide) ⟨by omega, by omega⟩ ⟨by omega, by omega⟩ (fun t_10 => ?_) (fun f_10 => ?_)
  · refine zr_aloadn X dX3_changeCapacity_14 rfl ?_
    refine zr_get X K (C := RX3) (T := TX3) (N := 6) (k := 1) (mB hb (by decide)) rfl rfl ti_3 (by decide) rfl tw_123 rfl dX3_changeCapacity_15 ?_
    refine zr_getN X K (C := RX1) (T := TX1) (N := 3) (k := 1) (mB hb (by decide)) rfl rfl ti_1 (by decide) rfl tn_83 rfl dX3_changeCapacity_18 ?_
    refine zr_iloadn X dX3_changeCapacity_21 rfl ?_
    refine zr_iloadn X dX3_changeCapacity_22 rfl ?_
    refine zr_iast X K (n := 80) (mB hb (by decide)) (fun _ => rfl) rfl (by decide) (by omega) dX3_changeCapacity_23 ?_
    generalize hm_σ1 : mset σ (b + 6, 2) a c = σ1
    refine zr_aloadn X dX3_changeCapacity_24 rfl ?_
    refine zr_iconst X dX3_changeCapacity_25 ?_
    refine zr_put X K (q := (b + 6, 10)) (C := RX3) (T := TX3) (ty0 := tyX3) (N := 6) (k := 5) (mB hb (by decide)) (fun _ => rfl) (by simp [mset]) rfl rfl ti_3 tyX3_ok nmX3 (by decide) rfl tw_131 rfl rfl rfl (Nat.le_of_ble_eq_true rfl) dX3_changeCapacity_26 ?_
    generalize hm_σ2 : mset σ1 (b + 6, 10) 0 0 = σ2
    have g12 : Fr b [2, 10] σ σ2 := Fr.tr (τ := σ1) (by rw [← hm_σ1]; exact Fr.set (by decide)) (by rw [← hm_σ2]; exact Fr.set (by decide))
    have g3 : σ2 (b + 6, 3) a = σ (b + 6, 3) a := by rw [g12.own 3]
    refine zr_aloadn X dX3_changeCapacity_29 rfl ?_
    refine zr_get X K (C := RX3) (T := TX3) (N := 6) (k := 1) (mB hb (by decide)) rfl rfl ti_3 (by decide) rfl tw_123 rfl dX3_changeCapacity_30 ?_
    refine zr_getN X K (C := RX1) (T := TX1) (N := 3) (k := 2) (mB hb (by decide)) rfl rfl ti_1 (by decide) rfl tn_85 rfl dX3_changeCapacity_33 ?_
    refine zr_iloadn X dX3_changeCapacity_36 rfl ?_
    refine zr_iald X K (n := 80) (mB hb (by decide)) rfl (by decide) (by omega) dX3_changeCapacity_37 ?_
    refine zr_iloadn X dX3_changeCapacity_38 rfl ?_
    refine zr_isub X dX3_changeCapacity_39 ?_
    refine zr_istoren X dX3_changeCapacity_40 (by decide) rfl ?_
    refine zr_iloadn X dX3_changeCapacity_41 rfl ?_
    refine zr_if_le X 78 dX3_changeCapacity_42 (by decide) ⟨by omega, by omega⟩ (fun t_42 => ?_) (fun f_42 => ?_)
    · refine zr_vret X hr dX3_changeCapacity_78 ?_
      exact cc_low h ha hc hm_σ1 hm_σ2 (by omega)
    · refine zr_aloadn X dX3_changeCapacity_45 rfl ?_
      refine zr_get X K (C := RX3) (T := TX3) (N := 6) (k := 1) (mB hb (by decide)) rfl rfl ti_3 (by decide) rfl tw_123 rfl dX3_changeCapacity_46 ?_
      refine zr_getN X K (C := RX1) (T := TX1) (N := 3) (k := 2) (mB hb (by decide)) rfl rfl ti_1 (by decide) rfl tn_85 rfl dX3_changeCapacity_49 ?_
      refine zr_iloadn X dX3_changeCapacity_52 rfl ?_
      refine zr_iloadn X dX3_changeCapacity_53 rfl ?_
      refine zr_iast X K (n := 80) (mB hb (by decide)) (fun _ => rfl) rfl (by decide) (by omega) dX3_changeCapacity_54 ?_
      generalize hm_σ3 : mset σ2 (b + 6, 3) a c = σ3
      obtain ⟨m1, m2, m3, ⟨F, m4, m5⟩, m6, m7⟩ := cc_mid h ha hc hm_σ1 hm_σ2 hm_σ3 (by omega)
      have ht := hN.2.2 a ha.1 ha.2
      refine zr_aloadn X dX3_changeCapacity_55 rfl ?_
      refine zr_aloadn X dX3_changeCapacity_56 rfl ?_
      refine zr_get X K (C := RX3) (T := TX3) (N := 6) (k := 0) (mB hb (by decide)) rfl rfl ti_3 (by decide) rfl tw_122 rfl dX3_changeCapacity_57 ?_
      refine zr_getN X K (C := RX4) (T := TX4) (N := 6) (k := 2) mF_0_0 rfl rfl ti_4 (by decide) rfl tn_45 rfl dX3_changeCapacity_60 ?_
      refine zr_iloadn X dX3_changeCapacity_63 rfl ?_
      refine zr_iald X K (n := 80) mF_0_2 rfl (by decide) (by omega) dX3_changeCapacity_64 ?_
      refine zr_aloadn X dX3_changeCapacity_65 rfl ?_
      refine zr_get X K (C := RX3) (T := TX3) (N := 6) (k := 0) (mB hb (by decide)) rfl rfl ti_3 (by decide) rfl tw_122 rfl dX3_changeCapacity_66 ?_
      refine zr_getN X K (C := RX4) (T := TX4) (N := 6) (k := 3) mF_0_0 rfl rfl ti_4 (by decide) rfl tn_47 rfl dX3_changeCapacity_69 ?_
      refine zr_iloadn X dX3_changeCapacity_72 rfl ?_
      refine zr_iald X K (n := 80) mF_0_3 rfl (by decide) (by omega) dX3_changeCapacity_73 ?_
      refine zr_iloadn X dX3_changeCapacity_74 rfl ?_
      refine zr_callVV X K (q := (RX3, TX3, 6)) (st := []) (c_X3_moveAway l D cs ad hap hb (σ := σ3) (m1.net hN) (m1.adj h.1.2.1) m2 m3 (F := F) (x := σ3 (0, 2) a) (y := σ3 (0, 3) a) (S := σ2 (b + 6, 3) a - c) m4 (by rw [m1.of 0 2, m1.of 0 0]; exact ht.1) (by rw [m1.of 0 3, m1.of 0 0]; exact ht.2.1) (by rw [m1.of 0 2, m1.of 0 3]; exact ht.2.2) (by omega) (by rw [m1.of 0 2, m1.of 0 3, g3]; exact m5)) ⟨tw_295, tw_297, tp_3, tw_3, tw_298⟩ dc_X3_moveAway (mB hb (by decide)) rfl rfl rfl rfl rfl (Nat.le_of_ble_eq_true rfl) (by decide) dX3_changeCapacity_75 ?_
      intro τ hp
      refine zr_vret X hr dX3_changeCapacity_78 ?_
      exact cc_end h ha m1 m3 m6 m7 hp
  · refine zr_vret X hr dX3_changeCapacity_13 ?_
    exact cc_same h (by omega)
