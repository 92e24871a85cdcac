/-! THE CLASS: findCuts -/
def fcS (K : (Int → Bool) → Prop) (n : Int) (P : Int → Prop) (f : Int → Int) (z : Int) : Prop := (1 ≤ z ∧ z ≤ 300) ∧ P (f 0) ∧ (∀ i, 0 ≤ i → i + 1 < z → nxY K n (f i) (f (i + 1))) ∧ (z = 300 ∨ nxN K n (f (z - 1)))
def fdP (σ τ : Mem) (s t : Int) : Prop := s3 σ τ ∧ (∀ k : Nat, k < 4 → τ (3, k) = σ (3, k)) ∧ fcS (clK σ s t) (σ (0, 0) 0) (rcP σ 0 s) (τ (3, 5)) (τ (3, 4) 0)
def fr1I (σ υ : Mem) (k : Int) : Prop := (∀ q : Ix, q ≠ (3, 6) → υ q = σ q) ∧ ∀ v, 0 ≤ v → v < k → rcP σ 0 v (υ (3, 6) v)
theorem fr1I.s3 {σ υ : Mem} {k : Int} (h : fr1I σ υ k) : s3 σ υ := fun g j hg => h.1 _ (fun e => hg (congrArg Prod.fst e))
theorem fr1_s {σ υ τ : Mem} {k z : Int} (h : fr1I σ υ k) (hz : rcP υ 0 k z) (e : mset υ (3, 6) k z = τ) : fr1I σ τ (k + 1) := ⟨fun q hq => by rw [← e, mset_id hq, h.1 q hq], fun v v0 v1 => by
  rw [← e, mset_at]
  by_cases q : v = k
  · rw [if_pos q, q]
    exact h.s3.rc.mp hz
  · rw [if_neg q]
    exact h.2 v v0 (by omega)⟩
def fnI (σ υ ω : Mem) (s t c : Int) : Prop := (∀ q : Ix, q ≠ (3, 4) → q ≠ (3, 5) → ω q = υ q) ∧ (0 ≤ ω (3, 4) 0 ∧ ω (3, 4) 0 ≤ 300) ∧ (ω (3, 4) 0 = 0 → c = υ (3, 6) s) ∧ (0 < ω (3, 4) 0 → ω (3, 5) 0 = υ (3, 6) s) ∧ (∀ i, 0 ≤ i → i + 1 < ω (3, 4) 0 → nxY (clK σ s t) (σ (0, 0) 0) (ω (3, 5) i) (ω (3, 5) (i + 1))) ∧ (0 < ω (3, 4) 0 → (c = 0 ∧ nxN (clK σ s t) (σ (0, 0) 0) (ω (3, 5) (ω (3, 4) 0 - 1))) ∨ nxY (clK σ s t) (σ (0, 0) 0) (ω (3, 5) (ω (3, 4) 0 - 1)) c)
theorem fn_0 {σ υ ω : Mem} {s t : Int} (e : mset υ (3, 4) 0 0 = ω) : fnI σ υ ω s t (ω (3, 6) s) := by
  have h0 : ω (3, 4) 0 = 0 := by rw [← e, mset_same]
  refine ⟨fun q h1 _ => by rw [← e, mset_id h1], by omega, fun _ => by rw [← e, mset_id (by decide)], fun h => by omega, fun i i0 i1 => by omega, fun h => by omega⟩
theorem fn_c {σ υ ω : Mem} {s t c : Int} (hN : NetOk σ) (hs : 0 ≤ s ∧ s < σ (0, 0) 0) (hr : rcP σ 0 s (υ (3, 6) s)) (h : fnI σ υ ω s t c) : c = 0 ∨ inN (σ (0, 0) 0) c := by
  obtain ⟨-, h1, h2, -, -, h5⟩ := h
  by_cases q : ω (3, 4) 0 = 0
  · rw [h2 q]
    exact Or.inr ⟨hr.1, fun v hv g => rcP_nodes hN hs.2 hr hv g⟩
  · rcases h5 (by omega) with g | g
    · exact Or.inl g.1
    · exact Or.inr (nxY_in g)
theorem fn_s3 {σ υ ω : Mem} {s t c k : Int} (h0 : fr1I σ υ k) (h : fnI σ υ ω s t c) : s3 σ ω := h0.s3.tr (fun g j hg => h.1 _ (fun e => hg (congrArg Prod.fst e)) (fun e => hg (congrArg Prod.fst e)))
theorem fn_mid {σ υ ω ω1 ω2 : Mem} {s t c : Int} (hN : NetOk σ) (hs : 0 ≤ s ∧ s < σ (0, 0) 0) (h0 : fr1I σ υ (σ (0, 0) 0)) (h : fnI σ υ ω s t c) (e1 : mset ω (3, 5) (ω (3, 4) 0) c = ω1) (e2 : mset ω1 (3, 4) 0 (ω1 (3, 4) 0 + 1) = ω2) : s3 σ ω2 ∧ rtb ω2 ∧ rcP ω2 0 s (ω2 (3, 5) 0) ∧ ω2 (3, 4) 0 = ω (3, 4) 0 + 1 ∧ (∀ i, ω2 (3, 5) i = if i = ω (3, 4) 0 then c else ω (3, 5) i) ∧ ∀ q : Ix, q ≠ (3, 4) → q ≠ (3, 5) → ω2 q = υ q := by
  have f1 : ∀ q, q ≠ (3, 5) → ω1 q = ω q := fun q hq => by rw [← e1, mset_id hq]
  have f2 : ∀ q, q ≠ (3, 4) → ω2 q = ω1 q := fun q hq => by rw [← e2, mset_id hq]
  have g35 : ∀ i, ω2 (3, 5) i = if i = ω (3, 4) 0 then c else ω (3, 5) i := fun i => by rw [f2 _ (by decide), ← e1, mset_at]
  have g34 : ω2 (3, 4) 0 = ω (3, 4) 0 + 1 := by rw [← e2, mset_same, f1 _ (by decide)]
  have gq : ∀ q : Ix, q ≠ (3, 4) → q ≠ (3, 5) → ω2 q = υ q := fun q a b => by rw [f2 q a, f1 q b, h.1 q a b]
  have gs : s3 σ ω2 := h0.s3.tr (fun g j hg => gq _ (fun e => hg (congrArg Prod.fst e)) (fun e => hg (congrArg Prod.fst e)))
  refine ⟨gs, fun v v0 v1 => ?_, ?_, g34, g35, gq⟩
  · rw [gs 0 0 (by decide)] at v1
    rw [gq _ (by decide) (by decide), gs.rc]
    exact h0.2 v v0 v1
  · have : ω2 (3, 5) 0 = υ (3, 6) s := by
      rw [g35]
      by_cases q : (0 : Int) = ω (3, 4) 0
      · rw [if_pos q]; exact h.2.2.1 q.symm
      · rw [if_neg q]; exact h.2.2.2.1 (by have := h.2.1.1; omega)
    rw [this, gs.rc]
    exact h0.2 s hs.1 hs.2
theorem fn_step {σ υ ω ω2 : Mem} {s t c z : Int} (h : fnI σ υ ω s t c) (hc : ω (3, 4) 0 < 300) (hc0 : c ≠ 0) (g34 : ω2 (3, 4) 0 = ω (3, 4) 0 + 1) (g35 : ∀ i, ω2 (3, 5) i = if i = ω (3, 4) 0 then c else ω (3, 5) i) (gq : ∀ q : Ix, q ≠ (3, 4) → q ≠ (3, 5) → ω2 q = υ q) (hz : (z = 0 ∧ nxN (clK σ s t) (σ (0, 0) 0) c) ∨ nxY (clK σ s t) (σ (0, 0) 0) c z) : fnI σ υ ω2 s t z := by
  obtain ⟨-, h1, h2, h3, h4, h5⟩ := h
  refine ⟨gq, by omega, fun q => by omega, fun _ => ?_, fun i i0 i1 => ?_, fun _ => ?_⟩
  · rw [g35]
    by_cases q : (0 : Int) = ω (3, 4) 0
    · rw [if_pos q]; exact h2 q.symm
    · rw [if_neg q]; exact h3 (by omega)
  · rw [g34] at i1
    rw [g35, g35, if_neg (by omega)]
    by_cases q : i + 1 = ω (3, 4) 0
    · rw [if_pos q]
      rcases h5 (by omega) with g | g
      · exact absurd g.1 hc0
      · rw [show i = ω (3, 4) 0 - 1 by omega]; exact g
    · rw [if_neg q]
      exact h4 i i0 (by omega)
  · rw [g34, g35, if_pos (by omega)]
    exact hz
theorem fn_end {σ υ ω : Mem} {s t c : Int} (hN : NetOk σ) (hs : 0 ≤ s ∧ s < σ (0, 0) 0) (h0 : fr1I σ υ (σ (0, 0) 0)) (h : fnI σ υ ω s t c) (hc : 300 ≤ ω (3, 4) 0 ∨ c = 0) : fdP σ ω s t := by
  have hr := h0.2 s hs.1 hs.2
  have hpos : 0 < ω (3, 4) 0 := by
    by_cases q : ω (3, 4) 0 = 0
    · have e := h.2.2.1 q
      rcases hc with g | g
      · omega
      · have := hr.2.1
        rw [← e, g] at this
        unfold bt at this
        simp at this
    · have := h.2.1.1; omega
  refine ⟨fn_s3 h0 h, fun k hk => ?_, ⟨by have := h.2.1; omega, ?_, h.2.2.2.2.1, ?_⟩⟩
  · rw [h.1 _ (fun e => by have := congrArg Prod.snd e; simp at this; omega) (fun e => by have := congrArg Prod.snd e; simp at this; omega), h0.1 _ (fun e => by have := congrArg Prod.snd e; simp at this; omega)]
  · rw [h.2.2.2.1 hpos]; exact hr
  · rcases hc with g | g
    · exact Or.inl (by have := h.2.1; omega)
    · rcases h.2.2.2.2.2 hpos with k | k
      · exact Or.inr k.2
      · exact absurd g (nxY_pos k)
def keepF (σ τ : Mem) : Prop := (∀ g k : Nat, g < 6 → ((g, k) : Ix) ∉ [((3, 4) : Ix), (3, 5), (3, 6)] → τ (g, k) = σ (g, k)) ∧ (∀ g k : Nat, g ≠ 3 → g < 6 → τ (g, k) = σ (g, k)) ∧ τ (6, 2) = σ (6, 2) ∧ τ (6, 8) = σ (6, 8) ∧ τ (6, 9) = σ (6, 9)
theorem fc_end {σ σ1 τ : Mem} (hf : fnOk σ) (hE : endsYes σ 0) (h : stP σ σ1 0) (k : fdP σ1 τ (σ1 (6, 8) 0) (σ1 (6, 9) 0)) : fnOk τ ∧ (∀ g k : Nat, g ≠ 3 → g < 6 → τ (g, k) = σ (g, k)) ∧ (∀ k : Nat, k < 4 → τ (3, k) = σ (3, k)) ∧ (τ (6, 2) = σ (6, 2) ∧ τ (6, 8) = σ (6, 8) ∧ τ (6, 9) = σ (6, 9)) ∧ fcS (mcS σ) (σ (0, 0) 0) (smP σ) (τ (3, 5)) (τ (3, 4) 0) := by
  obtain ⟨hf1, hk⟩ := st_keep hf h
  obtain ⟨k1, k2, k3⟩ := k
  rw [hk.2.2.1, hk.2.2.2, hk.1 0 0 (by decide)] at k3
  have eK : clK σ1 (σ (6, 8) 0) (σ (6, 9) 0) = mcS σ := nx_cong fun X => ⟨fun g => (st_mc h g.2.1 g.2.2).mp g.1, fun g => ⟨(st_mc h g.1 g.2.1).mpr g, g.1, g.2.1⟩⟩
  rw [eK] at k3
  refine ⟨⟨mf_cong (fun g q hg => k1 g q (by omega)) (fun q => k1 6 q (by decide)) hf1.1, ?_, ?_, ?_⟩, fun g q h3 h6 => (k1 g q h3).trans (hk.1 g q h6), fun q hq => (k2 q hq).trans (hk.1 3 q (by decide)), ⟨(k1 6 2 (by decide)).trans hk.2.1, (k1 6 8 (by decide)).trans hk.2.2.1, (k1 6 9 (by decide)).trans hk.2.2.2⟩, k3.1, sm_of hE h k3.2.1, k3.2.2⟩
  · have := hf1.2.1
    unfold capOk at this ⊢
    rw [k1 6 2 (by decide)]
    exact this
  · have := hf1.2.2.1
    unfold lvOk at this ⊢
    have e : ∀ v : Nat, τ (2, v) = σ1 (2, v) := fun v => k1 2 v (by decide)
    simp only [k2 0 (by decide), k2 1 (by decide), k2 2 (by decide), k1 0 0 (by decide), e]
    exact this
  · exact ⟨by have := k3.1; omega, k3.1.2⟩

set_option maxHeartbeats 4000000 in
set_option maxRecDepth 100000 in
theorem c_X0_find (l : Launch) (D : va_G) (cs : Nat → ClassId) (ad : Ix → Nat) (hap : Apart idsF ad) {σ : Mem} (hN : NetOk σ) (hF : FlOk σ 0) (hs : 0 ≤ σ (6, 8) 0 ∧ σ (6, 8) 0 < σ (0, 0) 0) (ht : 0 ≤ σ (6, 9) 0 ∧ σ (6, 9) 0 < σ (0, 0) 0) : CV l D cs idsF ad yX0_find cX0_find 4 3 [(.ref (ad (3, 4))), (.ref (ad (6, 0)))] σ (fun τ => fdP σ τ (σ (6, 8) 0) (σ (6, 9) 0)) := by
  refine CV.of RX0 hap idsF_nd (by decide) rfl (Nat.le_of_ble_eq_true rfl) ?_
  intro pg ev s0 mi av bl mt cd X K hr
  have hn := hN.1
  refine zr_aloadn X dX0_find_0 rfl ?_
  refine zr_getN X K (v := (.ref (ad (0, 0)))) (C := RX3) (T := TX3) (N := 6) (k := 0) mF_6_0 rfl rfl ti_3 (by decide) rfl tn_129 rfl dX0_find_1 ?_
  refine zr_getN X K (C := RX4) (T := TX4) (N := 6) (k := 0) mF_0_0 rfl rfl ti_4 (by decide) rfl tn_39 rfl dX0_find_4 ?_
  refine zr_istoren X dX0_find_7 (by decide) rfl ?_
  refine zr_iconst X dX0_find_8 ?_
  refine zr_istoren X dX0_find_9 (by decide) rfl ?_
  have loop_10 : ∀ (n_10 : Nat) (k : Int) (υ : Mem), ((0 ≤ k ∧ k ≤ σ (0, 0) 0) ∧ fr1I σ υ k) → (σ (0, 0) 0 - k).toNat < n_10 → Wx pg l ev (rmm 3 0 0) s0 mi av bl mt cd D cs idsF ad (Rg idsF ad) s0.heap 4 (MQ bl (qV D cs idsF ad ((fun τ => fdP σ τ (σ (6, 8) 0) (σ (6, 9) 0)))) av s0 0 0 (Rg idsF ad)) 0 0 υ 10 [some (.ref (ad (3, 4))), some (.ref (ad (6, 0))), some (jI (σ (0, 0) 0)), some (jI k)] [] := by
    intro n_10
    induction n_10 with
    | zero => exact fun k υ hinv hn => absurd hn (Nat.not_lt_zero _)
    | succ n_10 ih_10 =>
      intro k υ hI_10 hn_10
      have hk0 := hI_10.1
      have h3 := hI_10.2.s3
      have u0 : υ (0, 0) 0 = σ (0, 0) 0 := congrFun (h3 0 0 (by decide)) 0
      have u8 : υ (6, 8) 0 = σ (6, 8) 0 := congrFun (h3 6 8 (by decide)) 0
      refine zr_iloadn X dX0_find_10 rfl ?_
      refine zr_iloadn X dX0_find_11 rfl ?_
      refine zr_icmp_ge X 35 dX0_find_12 (by decide) ⟨by omega, by omega⟩ ⟨by omega, by omega⟩ (fun t_12 => ?_) (fun f_12 => ?_)
      · have hk : k = σ (0, 0) 0 := by omega
        have h1 : fr1I σ υ (σ (0, 0) 0) := hk ▸ hI_10.2
        refine zr_aloadn X dX0_find_35 rfl ?_
        refine zr_iconst X dX0_find_36 ?_
        refine zr_put X K (q := (3, 4)) (C := RX0) (T := TX0) (ty0 := tyX0) (N := 3) (k := 0) mF_3_4 (fun _ => rfl) (by simp [mset]) rfl rfl ti_0 tyX0_ok nmX0 (by decide) rfl tw_188 rfl rfl rfl (Nat.le_of_ble_eq_true rfl) dX0_find_37 ?_
        generalize hm_σ1 : mset υ (3, 4) 0 0 = σ1
        refine zr_aloadn X dX0_find_40 rfl ?_
        refine zr_get X K (C := RX0) (T := TX0) (N := 3) (k := 2) mF_3_4 rfl rfl ti_0 (by decide) rfl tw_192 rfl dX0_find_41 ?_
        refine zr_aloadn X dX0_find_44 rfl ?_
        refine zr_getN X K (v := (jI (σ1 (6, 8) 0))) (C := RX3) (T := TX3) (N := 6) (k := 3) mF_6_0 rfl rfl ti_3 (by decide) rfl tn_138 rfl dX0_find_45 ?_
        have w8 : σ1 (6, 8) 0 = σ (6, 8) 0 := by rw [← hm_σ1, mset_id (by decide)]; exact u8
        refine zr_iald X K (n := 24) mF_3_6 rfl (by decide) (by rw [w8]; omega) dX0_find_48 ?_
        refine zr_istoren X dX0_find_49 (by decide) rfl ?_
        have loop_50 : ∀ (n_50 : Nat) (c : Int) (ω : Mem), (fnI σ υ ω (σ (6, 8) 0) (σ (6, 9) 0) c) → (300 - ω (3, 4) 0).toNat < n_50 → Wx pg l ev (rmm 3 0 0) s0 mi av bl mt cd D cs idsF ad (Rg idsF ad) s0.heap 4 (MQ bl (qV D cs idsF ad ((fun τ => fdP σ τ (σ (6, 8) 0) (σ (6, 9) 0)))) av s0 0 0 (Rg idsF ad)) 0 0 ω 50 [some (.ref (ad (3, 4))), some (.ref (ad (6, 0))), some (jI (σ (0, 0) 0)), some (jI c)] [] := by
          intro n_50
          induction n_50 with
          | zero => exact fun c ω hinv hn => absurd hn (Nat.not_lt_zero _)
          | succ n_50 ih_50 =>
            intro c ω hI_50 hn_50
            have hc0 := fn_c hN hs (h1.2 _ hs.1 hs.2) hI_50
            have hw3 := fn_s3 h1 hI_50
            have hcn := hI_50.2.1
            have hcr : rg c := by
              rcases hc0 with q | q
              · exact ⟨by omega, by omega⟩
              · have := q.1.1
                have := q.1.2
                exact ⟨by omega, by omega⟩
            refine zr_aloadn X dX0_find_50 rfl ?_
            refine zr_get X K (C := RX0) (T := TX0) (N := 3) (k := 0) mF_3_4 rfl rfl ti_0 (by decide) rfl tw_188 rfl dX0_find_51 ?_
            refine zr_sipush X dX0_find_54 rfl ?_
            refine zr_icmp_ge X 98 dX0_find_57 (by decide) ⟨by omega, by omega⟩ ⟨by omega, by omega⟩ (fun t_57 => ?_) (fun f_57 => ?_)
            · refine zr_vret X hr dX0_find_98 ?_
              exact fn_end hN hs h1 hI_50 (by omega)
            · refine zr_iloadn X dX0_find_60 rfl ?_
              refine zr_if_eq X 98 dX0_find_61 (by decide) hcr (fun t_61 => ?_) (fun f_61 => ?_)
              · refine zr_vret X hr dX0_find_98 ?_
                exact fn_end hN hs h1 hI_50 (by omega)
              · refine zr_aloadn X dX0_find_64 rfl ?_
                refine zr_get X K (C := RX0) (T := TX0) (N := 3) (k := 1) mF_3_4 rfl rfl ti_0 (by decide) rfl tw_190 rfl dX0_find_65 ?_
                refine zr_aloadn X dX0_find_68 rfl ?_
                refine zr_get X K (C := RX0) (T := TX0) (N := 3) (k := 0) mF_3_4 rfl rfl ti_0 (by decide) rfl tw_188 rfl dX0_find_69 ?_
                refine zr_iloadn X dX0_find_72 rfl ?_
                refine zr_iast X K (n := 300) mF_3_5 (fun _ => rfl) rfl (by decide) (by omega) dX0_find_73 ?_
                generalize hm_σ2 : mset ω (3, 5) (ω (3, 4) 0) c = σ2
                refine zr_aloadn X dX0_find_74 rfl ?_
                refine zr_dup X dX0_find_75 rfl ?_
                refine zr_get X K (C := RX0) (T := TX0) (N := 3) (k := 0) mF_3_4 rfl rfl ti_0 (by decide) rfl tw_188 rfl dX0_find_76 ?_
                refine zr_iconst X dX0_find_79 ?_
                refine zr_iadd X dX0_find_80 ?_
                refine zr_put X K (q := (3, 4)) (C := RX0) (T := TX0) (ty0 := tyX0) (N := 3) (k := 0) mF_3_4 (fun _ => rfl) (by simp [mset]) rfl rfl ti_0 tyX0_ok nmX0 (by decide) rfl tw_188 rfl rfl rfl (Nat.le_of_ble_eq_true rfl) dX0_find_81 ?_
                generalize hm_σ3 : mset σ2 (3, 4) 0 ((σ2 (3, 4) 0) + 1) = σ3
                have hinc : inN (σ (0, 0) 0) c := hc0.resolve_left (by omega)
                have hmid := fn_mid hN hs h1 hI_50 hm_σ2 hm_σ3
                have x9 : σ3 (6, 9) 0 = σ (6, 9) 0 := congrFun (hmid.1 6 9 (by decide)) 0
                have x0 : σ3 (0, 0) 0 = σ (0, 0) 0 := congrFun (hmid.1 0 0 (by decide)) 0
                refine zr_aloadn X dX0_find_84 rfl ?_
                refine zr_iloadn X dX0_find_85 rfl ?_
                refine zr_iloadn X dX0_find_86 rfl ?_
                refine zr_aloadn X dX0_find_87 rfl ?_
                refine zr_getN X K (v := (jI (σ3 (6, 9) 0))) (C := RX3) (T := TX3) (N := 6) (k := 4) mF_6_0 rfl rfl ti_3 (by decide) rfl tn_142 rfl dX0_find_88 ?_
                have nxc := c_X0_nextAfter l D cs ad hap (σ := σ3) (hmid.1.net hN) hmid.2.1 (q := c) (s := σ (6, 8) 0) (t := σ3 (6, 9) 0) (by rw [x0]; exact hinc) (by rw [x0]; exact hs) (by rw [x0, x9]; exact ht) hmid.2.2.1
                rw [x0] at nxc
                refine zr_callVI X K (q := (RX0, TX0, 3)) (st := []) nxc ⟨tw_633, tw_635, tp_35, tw_7, tw_636⟩ dc_X0_nextAfter mF_3_4 rfl rfl rfl rfl rfl (Nat.le_of_ble_eq_true rfl) (by decide) dX0_find_91 ?_
                intro z τ_ hp_
                obtain ⟨hτ_, hz⟩ := hp_
                subst τ_
                rw [x9, hmid.1.k] at hz
                refine zr_istoren X dX0_find_94 (by decide) rfl ?_
                refine zr_goto X 50 dX0_find_95 (by decide) ?_
                refine Wx.weak (lo' := [some (.ref (ad (3, 4))), some (.ref (ad (6, 0))), some (jI (σ (0, 0) 0)), some (jI z)]) ⟨rfl, rfl, rfl, rfl, trivial⟩ ?_
                have hfs := fn_step hI_50 (by omega) (by omega) hmid.2.2.2.1 hmid.2.2.2.2.1 hmid.2.2.2.2.2 hz
                exact ih_50 _ _ hfs (by rw [hmid.2.2.2.1]; omega)
        refine Wx.weak (lo' := [some (.ref (ad (3, 4))), some (.ref (ad (6, 0))), some (jI (σ (0, 0) 0)), some (jI (σ1 (3, 6) (σ1 (6, 8) 0)))]) ⟨rfl, rfl, rfl, rfl, trivial⟩ ?_
        exact loop_50 _ _ _ (by have := fn_0 (σ := σ) (s := σ (6, 8) 0) (t := σ (6, 9) 0) hm_σ1; rw [w8]; exact this) (Nat.lt_succ_self _)
      · refine zr_aloadn X dX0_find_15 rfl ?_
        refine zr_get X K (C := RX0) (T := TX0) (N := 3) (k := 2) mF_3_4 rfl rfl ti_0 (by decide) rfl tw_192 rfl dX0_find_16 ?_
        refine zr_iloadn X dX0_find_19 rfl ?_
        refine zr_aloadn X dX0_find_20 rfl ?_
        refine zr_getN X K (v := (.ref (ad (6, 1)))) (C := RX3) (T := TX3) (N := 6) (k := 1) mF_6_0 rfl rfl ti_3 (by decide) rfl tn_132 rfl dX0_find_21 ?_
        refine zr_iloadn X dX0_find_24 rfl ?_
        refine zr_callNI X K (q := (RX1, TX1, 3)) (st := [(jI k), (.ref (ad (3, 6)))]) (c_X1_reachableFrom l D cs ad hap (b := 0) (by decide) (σ := υ) (h3.net hN) (h3.fl hF) (x := k) ⟨hk0.1, by omega⟩) ⟨tn_632, tw_296, tp_14, tw_4, tw_297⟩ dc_X1_reachableFrom mF_6_1 rfl rfl rfl rfl rfl (Nat.le_of_ble_eq_true rfl) (by decide) dX0_find_25 ?_
        intro z τ_ hp_
        obtain ⟨hτ_, hz⟩ := hp_
        subst τ_
        refine zr_iast X K (n := 24) mF_3_6 (fun _ => rfl) rfl (by decide) (by omega) dX0_find_28 ?_
        generalize hm_σ4 : mset υ (3, 6) k z = σ4
        refine zr_iinc X dX0_find_29 rfl (by decide) rfl ?_
        refine zr_goto X 10 dX0_find_32 (by decide) ?_
        refine Wx.weak (lo' := [some (.ref (ad (3, 4))), some (.ref (ad (6, 0))), some (jI (σ (0, 0) 0)), some (jI (k + 1))]) ⟨rfl, rfl, rfl, rfl, trivial⟩ ?_
        exact ih_10 _ _ ⟨⟨by omega, by omega⟩, fr1_s hI_10.2 hz hm_σ4⟩ (by omega)
  refine Wx.weak (lo' := [some (.ref (ad (3, 4))), some (.ref (ad (6, 0))), some (jI (σ (0, 0) 0)), some (jI 0)]) ⟨rfl, rfl, rfl, rfl, trivial⟩ ?_
  exact loop_10 _ _ _ ⟨⟨by omega, by omega⟩, fun _ _ => rfl, fun v a b => by omega⟩ (Nat.lt_succ_self _)

set_option maxHeartbeats 4000000 in
set_option maxRecDepth 100000 in
theorem c_X6_findCuts (l : Launch) (D : va_G) (cs : Nat → ClassId) (ad : Ix → Nat) (hap : Apart idsF ad) (hl : l.stackTraces = false) {σ : Mem} (h : fnOk σ) (sz : Nat) : CXI l D cs idsF ad yX6_findCuts cX6_findCuts 1 .int 7 8 48 sz [(.ref (ad (3, 7)))] σ (fun z τ => (fnOk τ ∧ (∀ g k : Nat, g ≠ 3 → g < 6 → τ (g, k) = σ (g, k)) ∧ (∀ k : Nat, k < 4 → τ (3, k) = σ (3, k)) ∧ (τ (6, 2) = σ (6, 2) ∧ τ (6, 8) = σ (6, 8) ∧ τ (6, 9) = σ (6, 9)) ∧ fcS (mcS σ) (σ (0, 0) 0) (smP σ) (τ (3, 5)) (τ (3, 4) 0)) ∧ endsYes σ 0 ∧ z = τ (3, 4) 0) ((fun E => E = ISE ∧ endsNo σ 0)) := by
  refine CXI.of RX6 hl hap idsF_nd (by decide) rfl (Nat.le_of_ble_eq_true rfl) ?_
  intro pg ev s0 mi av bl mt cd X K T hr
  have hN := h.net
  have hn := hN.1
  have hm := hN.2.1
  refine zr_aloadn X dX6_findCuts_0 rfl ?_
  refine zr_xcallVV X K T (q := (RX6, TX6, 5)) (st := []) (fun sz => c_X6_requireEnds l D cs ad hap hl (σ := σ) hN h.ends sz) ⟨tw_516, tw_518, tp_26, tw_1, tw_519⟩ dc_X6_requireEnds mF_3_7 rfl rfl rfl rfl rfl (Nat.le_of_ble_eq_true rfl) (by decide) dX6_findCuts_1 ⟨by decide, by decide⟩ (fun E h => h) ?_
  intro τ_ hp_
  obtain ⟨hτ_, hEy⟩ := hp_
  subst τ_
  refine zr_aloadn X dX6_findCuts_4 rfl ?_
  refine zr_get X K (C := RX6) (T := TX6) (N := 5) (k := 1) mF_3_7 rfl rfl ti_6 (by decide) rfl tw_201 rfl dX6_findCuts_5 ?_
  refine zr_callNV X K (q := (RX3, TX3, 6)) (st := []) (c_X3_settle l D cs ad hap (b := 0) (by decide) (σ := σ) h.1 hEy (cut_0 h hEy)) ⟨tn_571, tw_240, tp_2, tw_3, tw_241⟩ dc_X3_settle mF_6_0 rfl rfl rfl rfl rfl (Nat.le_of_ble_eq_true rfl) (by decide) dX6_findCuts_8 ?_
  intro σ1 hst
  have hk := st_keep h hst
  have e8 : σ1 (6, 8) 0 = σ (6, 8) 0 := congrFun hk.2.2.2.1 0
  have e9 : σ1 (6, 9) 0 = σ (6, 9) 0 := congrFun hk.2.2.2.2 0
  have e0 : σ1 (0, 0) 0 = σ (0, 0) 0 := congrFun (hk.2.1 0 0 (by decide)) 0
  have hEe := ends_of hEy
  refine zr_aloadn X dX6_findCuts_11 rfl ?_
  refine zr_get X K (C := RX6) (T := TX6) (N := 5) (k := 4) mF_3_7 rfl rfl ti_6 (by decide) rfl tw_204 rfl dX6_findCuts_12 ?_
  refine zr_aloadn X dX6_findCuts_15 rfl ?_
  refine zr_get X K (C := RX6) (T := TX6) (N := 5) (k := 1) mF_3_7 rfl rfl ti_6 (by decide) rfl tw_201 rfl dX6_findCuts_16 ?_
  refine zr_callNV X K (q := (RX0, TX0, 3)) (st := []) (c_X0_find l D cs ad hap (σ := σ1) hk.1.net hst.1.1.2.2 (by rw [e8, e0]; exact hEe.1) (by rw [e9, e0]; exact hEe.2.1)) ⟨tn_628, tw_630, tp_34, tw_7, tw_631⟩ dc_X0_find mF_3_4 rfl rfl rfl rfl rfl (Nat.le_of_ble_eq_true rfl) (by decide) dX6_findCuts_19 ?_
  intro τ hfd
  refine zr_aloadn X dX6_findCuts_22 rfl ?_
  refine zr_get X K (C := RX6) (T := TX6) (N := 5) (k := 4) mF_3_7 rfl rfl ti_6 (by decide) rfl tw_204 rfl dX6_findCuts_23 ?_
  refine zr_getN X K (C := RX0) (T := TX0) (N := 3) (k := 0) mF_3_4 rfl rfl ti_0 (by decide) rfl tn_189 rfl dX6_findCuts_26 ?_
  refine zr_xiret X ⟨by decide, by decide⟩ hr dX6_findCuts_29 ?_
  exact ⟨fc_end h hEy hst hfd, hEy, rfl⟩
