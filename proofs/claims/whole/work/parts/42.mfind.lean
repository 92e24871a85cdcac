/-! THE REFERENCE: findCuts, isBottleneck -/
def fr15 (σ τ : Mem) : Prop := ∀ p : Ix, p ≠ (4, 14) → p ≠ (4, 15) → τ p = σ p
theorem fr15.cl {σ τ : Mem} (f : fr15 σ τ) {X : Int → Bool} : rcl τ X ↔ rcl σ X := by
  unfold rcl
  rw [f (4, 3) (by decide) (by decide), f (4, 4) (by decide) (by decide), f (4, 5) (by decide) (by decide), f (4, 16) (by decide) (by decide), f (4, 17) (by decide) (by decide)]
theorem fr15.net {σ τ : Mem} (f : fr15 σ τ) (h : mNet σ) : mNet τ := by
  unfold mNet at h ⊢
  rw [f (4, 2) (by decide) (by decide), f (4, 3) (by decide) (by decide), f (4, 4) (by decide) (by decide), f (4, 5) (by decide) (by decide)]
  exact h
theorem fr15.rt {σ τ : Mem} (f : fr15 σ τ) (h : rtM σ) : rtM τ := fun v v0 v1 => by
  rw [f (4, 2) (by decide) (by decide)] at v1
  rw [f (4, 20) (by decide) (by decide)]
  obtain ⟨a, b, c, d⟩ := h v v0 v1
  exact ⟨by rw [f (4, 2) (by decide) (by decide)]; exact a, b, f.cl.mpr c, fun X hX => d X (f.cl.mp hX)⟩
theorem fr15.ey {σ τ : Mem} (f : fr15 σ τ) (h : mEy σ) : mEy τ := by
  unfold mEy at h ⊢
  rw [f (4, 2) (by decide) (by decide), f (4, 7) (by decide) (by decide), f (4, 8) (by decide) (by decide)]
  exact h
theorem fr15.k {σ τ : Mem} (f : fr15 σ τ) : clKM τ = clKM σ := nx_cong fun X => by
  unfold clKM
  rw [f.cl, f (4, 7) (by decide) (by decide), f (4, 8) (by decide) (by decide)]
theorem fr15.wc {σ τ : Mem} (f : fr15 σ τ) {q W : Int} (h : wclP τ q W) : wclP σ q W := by
  unfold wclP at h ⊢
  rw [f (4, 2) (by decide) (by decide), f (4, 7) (by decide) (by decide)] at h
  obtain ⟨a, b, c, d, e⟩ := h
  exact ⟨a, f.cl.mp b, c, d, fun X hX => e X (f.cl.mpr hX)⟩
def mcI (τ1 ω : Mem) (c : Int) : Prop := fr15 τ1 ω ∧ (0 ≤ ω (4, 15) 0 ∧ ω (4, 15) 0 ≤ 300) ∧ (ω (4, 15) 0 = 0 → wclP τ1 0 c) ∧ (0 < ω (4, 15) 0 → wclP τ1 0 (ω (4, 14) 0)) ∧ (∀ i, 0 ≤ i → i + 1 < ω (4, 15) 0 → nxY (clKM τ1) (τ1 (4, 2) 0) (ω (4, 14) i) (ω (4, 14) (i + 1))) ∧ (0 < ω (4, 15) 0 → (c = -1 ∧ nxN (clKM τ1) (τ1 (4, 2) 0) (ω (4, 14) (ω (4, 15) 0 - 1))) ∨ nxY (clKM τ1) (τ1 (4, 2) 0) (ω (4, 14) (ω (4, 15) 0 - 1)) c)
theorem mc_0 {τ1 σ2 : Mem} {z : Int} (e : mset τ1 (4, 15) 0 0 = σ2) (h : wclP τ1 0 z) : mcI τ1 σ2 z := by
  have h0 : σ2 (4, 15) 0 = 0 := by rw [← e, mset_same]
  exact ⟨fun p _ p2 => by rw [← e, mset_id p2], by omega, fun _ => h, fun g => by omega, fun i a b => by omega, fun g => by omega⟩
theorem mc_c {τ1 ω : Mem} {c : Int} (h : mcI τ1 ω c) : c = -1 ∨ inN (τ1 (4, 2) 0) c := by
  obtain ⟨-, h1, h2, -, -, h5⟩ := h
  by_cases q : ω (4, 15) 0 = 0
  · exact Or.inr (h2 q).1
  · rcases h5 (by omega) with g | g
    · exact Or.inl g.1
    · exact Or.inr (nxY_in g)
theorem mc_mid {τ1 ω σ1 σ2 : Mem} {c : Int} (h : mcI τ1 ω c) (e1 : mset ω (4, 14) (ω (4, 15) 0) c = σ1) (e2 : mset σ1 (4, 15) 0 (σ1 (4, 15) 0 + 1) = σ2) : fr15 τ1 σ2 ∧ σ2 (4, 15) 0 = ω (4, 15) 0 + 1 ∧ ∀ i, σ2 (4, 14) i = if i = ω (4, 15) 0 then c else ω (4, 14) i := by
  refine ⟨fun p p1 p2 => ?_, ?_, fun i => ?_⟩
  · rw [← e2, mset_id p2, ← e1, mset_id p1, h.1 p p1 p2]
  · rw [← e2, mset_same, ← e1, mset_id (by decide)]
  · rw [← e2, mset_id (by decide), ← e1, mset_at]
theorem mc_s {τ1 ω σ2 : Mem} {c z : Int} (h : mcI τ1 ω c) (hc : ω (4, 15) 0 < 300) (hc0 : c ≠ -1) (g : fr15 τ1 σ2 ∧ σ2 (4, 15) 0 = ω (4, 15) 0 + 1 ∧ ∀ i, σ2 (4, 14) i = if i = ω (4, 15) 0 then c else ω (4, 14) i) (hz : (z = -1 ∧ nxN (clKM τ1) (τ1 (4, 2) 0) c) ∨ nxY (clKM τ1) (τ1 (4, 2) 0) c z) : mcI τ1 σ2 z := by
  obtain ⟨-, h1, h2, h3, h4, h5⟩ := h
  obtain ⟨g1, g2, g3⟩ := g
  refine ⟨g1, by omega, fun q => by omega, fun _ => ?_, fun i i0 i1 => ?_, fun _ => ?_⟩
  · rw [g3]
    by_cases q : (0 : Int) = ω (4, 15) 0
    · rw [if_pos q]; exact h2 q.symm
    · rw [if_neg q]; exact h3 (by omega)
  · rw [g2] at i1
    rw [g3, g3, if_neg (by omega)]
    by_cases q : i + 1 = ω (4, 15) 0
    · rw [if_pos q]
      rcases h5 (by omega) with g | g
      · exact absurd g.1 hc0
      · rw [show i = ω (4, 15) 0 - 1 by omega]; exact g
    · rw [if_neg q]
      exact h4 i i0 (by omega)
  · rw [g2, g3, if_pos (by omega)]
    exact hz
theorem mc_end {τ1 ω : Mem} {c : Int} (h : mcI τ1 ω c) (hc : 300 ≤ ω (4, 15) 0 ∨ c = -1) : fcS (clKM τ1) (τ1 (4, 2) 0) (wclP τ1 0) (ω (4, 14)) (ω (4, 15) 0) := by
  have hpos : 0 < ω (4, 15) 0 := by
    by_cases q : ω (4, 15) 0 = 0
    · have e := (h.2.2.1 q).1.1.1
      omega
    · have := h.2.1.1; omega
  refine ⟨by have := h.2.1; omega, h.2.2.2.1 hpos, h.2.2.2.2.1, ?_⟩
  rcases hc with g | g
  · exact Or.inl (by have := h.2.1; omega)
  · rcases h.2.2.2.2.2 hpos with k | k
    · exact Or.inr k.2
    · have := (nxY_in k).1.1
      omega
theorem fdM_k {σ τ : Mem} (h : fdM σ τ) : clKM τ = mcM σ := nx_cong fun X => by
  unfold clKM
  rw [h.1 (4, 7) (by decide), h.1 (4, 8) (by decide)]
  exact ⟨fun g => (h.2.2.1 X g.2.1 g.2.2).mp g.1, fun g => ⟨(h.2.2.1 X g.1 g.2.1).mpr g, g.1, g.2.1⟩⟩
theorem fdM_w {σ τ : Mem} {z : Int} (hE : mEy σ) (h : fdM σ τ) (k : wclP τ 0 z) : smM σ z := by
  obtain ⟨k1, k2, k3, -, k5⟩ := k
  rw [h.1 (4, 7) (by decide)] at k3 k5
  have b0 : ∀ u, ¬ bt 0 u = true := fun u g => by unfold bt at g; simp at g
  obtain ⟨-, -, h3, ⟨S, s1, s2, s3⟩, -⟩ := h
  have ht : ¬ bt z (σ (4, 8) 0) = true := fun q => s2 (k5 S s3 s1 (fun u _ g => absurd g (b0 u)) _ hE.2.1.1 q)
  refine ⟨k1.1, fun v hv => ⟨fun q X hX => ?_, fun q => ?_⟩⟩
  · exact k5 X ((h3 X hX.1 hX.2.1).mpr hX) hX.1 (fun u _ g => absurd g (b0 u)) v hv q
  · exact q _ ((h3 _ k3 ht).mp k2)
/-- the first cut is one -/
theorem fdM_1 {σ τ υ : Mem} {z : Int} (hE : mEy σ) (h : fdM σ τ) (f : fr15 τ υ) (k : clP υ 0 0 z) : wclP τ 0 z := by
  obtain ⟨W, w1, w2⟩ := k
  have b0 : ∀ u, ¬ bt 0 u = true := fun u g => by unfold bt at g; simp at g
  obtain ⟨S, s1, s2, s3⟩ := h.2.2.2.1
  have w1' := f.wc w1
  rcases w2 with w2 | ⟨-, w2 | ⟨u, u0, -, g⟩⟩
  · rw [w2.1]; exact w1'
  · rw [f (4, 8) (by decide) (by decide), h.1 (4, 8) (by decide)] at w2
    exact absurd (w1'.2.2.2.2 S s3 (by rw [h.1 (4, 7) (by decide)]; exact s1) (fun u _ g => absurd g (b0 u)) _ hE.2.1.1 w2) s2
  · exact absurd g (b0 u)
def fq2 (σ τ : Mem) : Prop := ∀ p : Ix, p ∉ [((4, 1) : Ix), (4, 14), (4, 15), (4, 16), (4, 17), (4, 18), (4, 19), (4, 20)] → τ p = σ p
theorem fq2_of {σ σ1 τ1 τ : Mem} (h1 : fq σ σ1) (h2 : fq σ1 τ1) (h3 : fr15 τ1 τ) : fq2 σ τ := fun p hp => by
  simp only [List.mem_cons, List.not_mem_nil, or_false, not_or] at hp
  have hq : p ∉ [((4, 1) : Ix), (4, 16), (4, 17), (4, 18), (4, 19), (4, 20)] := by
    simp only [List.mem_cons, List.not_mem_nil, or_false, not_or]
    exact ⟨hp.1, hp.2.2.2.1, hp.2.2.2.2.1, hp.2.2.2.2.2.1, hp.2.2.2.2.2.2.1, hp.2.2.2.2.2.2.2⟩
  rw [h3 p hp.2.1 hp.2.2.1, h2 p hq, h1 p hq]
def btM (σ : Mem) (a : Int) : Prop := σ (4, 6) a ≠ 0 ∧ ∃ X, mcM σ X ∧ X (σ (4, 4) a) = true ∧ ¬ X (σ (4, 5) a) = true
theorem bt_of {σ τ : Mem} {a z : Int} (hE : mEy σ) (h : fdM σ τ) (hN : mNet σ) (ha : 0 ≤ a ∧ a < σ (4, 3) 0) (k : clP τ (pI (σ (4, 4) a)) (pI (σ (4, 5) a)) z) : z ≠ -1 ↔ ∃ X, mcM σ X ∧ X (σ (4, 4) a) = true ∧ ¬ X (σ (4, 5) a) = true := by
  obtain ⟨W, ⟨w1, w2, w3, w4, w5⟩, w6⟩ := k
  have hNa := hN.2.2 a ha.1 ha.2
  rw [h.1 (4, 7) (by decide)] at w3 w5
  rw [h.1 (4, 8) (by decide)] at w6
  constructor
  · intro hz
    obtain ⟨rfl, w7, w8⟩ := w6.resolve_right (fun g => hz g.1)
    refine ⟨bt z, (h.2.2.1 _ w3 w7).mp w2, w4 _ hNa.1.1 (by rw [bt_p hNa.1.1 hNa.1.1]; exact decide_eq_true rfl), fun g => w8 _ hNa.2.1.1 ⟨g, by rw [bt_p hNa.2.1.1 hNa.2.1.1]; exact decide_eq_true rfl⟩⟩
  · rintro ⟨X, x1, x2, x3⟩ hz
    have i := w5 X ((h.2.2.1 X x1.1 x1.2.1).mpr x1) x1.1 (fun u hu b => by
      rw [bt_p hNa.1.1 hu, decide_eq_true_eq] at b
      rw [← b]; exact x2)
    rcases w6 with ⟨g, -, -⟩ | ⟨-, g | ⟨u, u0, g, b⟩⟩
    · have := w1.1.1
      omega
    · exact x1.2.1 (i _ hE.2.1.1 g)
    · rw [bt_p hNa.2.1.1 u0, decide_eq_true_eq] at b
      exact x3 (b ▸ i u u0 g)

set_option maxHeartbeats 4000000 in
set_option maxRecDepth 100000 in
theorem c_X7_findCuts (l : Launch) (D : va_G) (cs : Nat → ClassId) (ad : Ix → Nat) (hap : Apart idsM ad) {σ : Mem} (h : mOk σ) : CI l D cs idsM ad yX7_findCuts cX7_findCuts 2 .int 4 [(.ref (ad (4, 0)))] σ (fun z τ => (mEn σ ∧ fq σ τ ∧ τ (4, 1) 0 = 1) ∨ (mEy σ ∧ fq2 σ τ ∧ τ (4, 1) 0 = 0 ∧ z = τ (4, 15) 0 ∧ fcS (mcM σ) (σ (4, 2) 0) (smM σ) (τ (4, 14)) z)) := by
  refine CI.of RX7 hap idsM_nd (by decide) rfl (Nat.le_of_ble_eq_true rfl) ?_
  intro pg ev s0 mi av bl mt cd X K hr
  refine zr_aloadn X dX7_findCuts_0 rfl ?_
  refine zr_iconst X dX7_findCuts_1 ?_
  refine zr_put X K (q := (4, 1)) (C := RX7) (T := TX7) (ty0 := tyX7) (N := 20) (k := 0) mM_0 (fun _ => rfl) (by simp [mset]) rfl rfl ti_7 tyX7_ok nmX7 (by decide) rfl tw_700 rfl rfl rfl (Nat.le_of_ble_eq_true rfl) dX7_findCuts_2 ?_
  generalize hm_σ1 : mset σ (4, 1) 0 0 = σ1
  have hq1 : fq σ σ1 := fq_set hm_σ1
  have t1 := congrArg (fun μ : Mem => μ (4, 1) 0) hm_σ1
  have h1 := hq1.ok h
  have hN := h1.1
  have hn := hN.1
  have hm := hN.2.1
  have hE := h1.2.2.1
  have hEs := h.2.2.1
  unfold mEn mEy at hE
  have e7 : σ1 (4, 7) 0 = σ (4, 7) 0 := congrFun (hq1 (4, 7) (by decide)) 0
  have e8 : σ1 (4, 8) 0 = σ (4, 8) 0 := congrFun (hq1 (4, 8) (by decide)) 0
  have e2 : σ1 (4, 2) 0 = σ (4, 2) 0 := congrFun (hq1 (4, 2) (by decide)) 0
  have e3 : σ1 (4, 3) 0 = σ (4, 3) 0 := congrFun (hq1 (4, 3) (by decide)) 0
  have e6 : σ1 (4, 6) = σ (4, 6) := hq1 (4, 6) (by decide)
  have e4 : σ1 (4, 4) = σ (4, 4) := hq1 (4, 4) (by decide)
  have e5 : σ1 (4, 5) = σ (4, 5) := hq1 (4, 5) (by decide)
  simp only [mset_same] at t1
  refine zr_aloadn X dX7_findCuts_5 rfl ?_
  refine zr_get X K (C := RX7) (T := TX7) (N := 20) (k := 6) mM_0 rfl rfl ti_7 (by decide) rfl tw_706 rfl dX7_findCuts_6 ?_
  refine zr_iconst X dX7_findCuts_9 ?_
  refine zr_icmp_ne X 19 dX7_findCuts_10 (by decide) ⟨by omega, by omega⟩ ⟨by omega, by omega⟩ (fun t_10 => ?_) (fun f_10 => ?_)
  · have hEy : mEy σ := hEs.resolve_left (fun q => by unfold mEn at q; omega)
    have hEy1 := hq1.ey hEy
    have hEy1 := hq1.ey hEy
    refine zr_aloadn X dX7_findCuts_19 rfl ?_
    refine zr_callVV X K (q := (RX7, TX7, 20)) (st := []) (c_X7_findReached l D cs ad hap (σ := σ1) h1 hEy1) ⟨tw_919, tw_921, tp_51, tw_8, tw_922⟩ dc_X7_findReached mM_0 rfl rfl rfl rfl rfl (Nat.le_of_ble_eq_true rfl) (by decide) dX7_findCuts_20 ?_
    intro τ1 hfd
    have hNt := (hfd.1.ok h1).1
    have hEt := hfd.1.ey hEy1
    refine zr_aloadn X dX7_findCuts_23 rfl ?_
    refine zr_iconst X dX7_findCuts_24 ?_
    refine zr_put X K (q := (4, 15)) (C := RX7) (T := TX7) (ty0 := tyX7) (N := 20) (k := 14) mM_0 (fun _ => rfl) (by simp [mset]) rfl rfl ti_7 tyX7_ok nmX7 (by decide) rfl tw_714 rfl rfl rfl (Nat.le_of_ble_eq_true rfl) dX7_findCuts_25 ?_
    generalize hm_σ2 : mset τ1 (4, 15) 0 0 = σ2
    have f2 : fr15 τ1 σ2 := fun p _ p2 => by rw [← hm_σ2, mset_id p2]
    refine zr_aloadn X dX7_findCuts_28 rfl ?_
    refine zr_iconst X dX7_findCuts_29 ?_
    refine zr_iconst X dX7_findCuts_30 ?_
    refine zr_callVI X K (q := (RX7, TX7, 20)) (st := []) (c_X7_closed l D cs ad hap (σ := σ2) (f2.net hNt) (f2.rt hfd.2.1) (f2.ey hEt) (q := 0) (p := 0) ⟨⟨by decide, by decide⟩, fun v v0 b => by unfold bt at b; simp at b⟩ ⟨by decide, by decide⟩) ⟨tw_935, tw_937, tp_53, tw_8, tw_938⟩ dc_X7_closed mM_0 rfl rfl rfl rfl rfl (Nat.le_of_ble_eq_true rfl) (by decide) dX7_findCuts_31 ?_
    intro z τ_ hp_
    obtain ⟨hτ_, hcl⟩ := hp_
    subst τ_
    refine zr_istoren X dX7_findCuts_34 (by decide) rfl ?_
    have loop_35 : ∀ (n_35 : Nat) (c : Int) (ω : Mem), (mcI τ1 ω c) → (300 - ω (4, 15) 0).toNat < n_35 → Wx pg l ev (rmm 4 0 0) s0 mi av bl mt cd D cs idsM ad (Rg idsM ad) s0.heap 2 (MQ bl (qI D cs idsM ad ((fun z τ => (mEn σ ∧ fq σ τ ∧ τ (4, 1) 0 = 1) ∨ (mEy σ ∧ fq2 σ τ ∧ τ (4, 1) 0 = 0 ∧ z = τ (4, 15) 0 ∧ fcS (mcM σ) (σ (4, 2) 0) (smM σ) (τ (4, 14)) z)))) av s0 0 0 (Rg idsM ad)) 0 0 ω 35 [some (.ref (ad (4, 0))), some (jI c)] [] := by
      intro n_35
      induction n_35 with
      | zero => exact fun c ω hinv hn => absurd hn (Nat.not_lt_zero _)
      | succ n_35 ih_35 =>
        intro c ω hI_35 hn_35
        have hcr : rg c := by
          rcases mc_c hI_35 with q | q
          · exact ⟨by omega, by omega⟩
          · have := q.1.1
            have := q.1.2
            exact ⟨by omega, by omega⟩
        have hcn := hI_35.2.1
        refine zr_iloadn X dX7_findCuts_35 rfl ?_
        refine zr_iconst X dX7_findCuts_36 ?_
        refine zr_icmp_eq X 79 dX7_findCuts_37 (by decide) hcr ⟨by decide, by decide⟩ (fun t_37 => ?_) (fun f_37 => ?_)
        · refine zr_aloadn X dX7_findCuts_79 rfl ?_
          refine zr_get X K (C := RX7) (T := TX7) (N := 20) (k := 14) mM_0 rfl rfl ti_7 (by decide) rfl tw_714 rfl dX7_findCuts_80 ?_
          refine zr_iret X hr dX7_findCuts_83 ?_
          have hfc := mc_end hI_35 (by omega)
          have n2 : τ1 (4, 2) 0 = σ (4, 2) 0 := (congrFun (hfd.1 (4, 2) (by decide)) 0).trans e2
          have hK : mcM σ1 = mcM σ := by
            unfold mcM
            rw [e4, e5, e6, e7, e8, e3]
          rw [fdM_k hfd, hK, n2] at hfc
          have ht : ω (4, 1) 0 = 0 := by rw [hI_35.1 (4, 1) (by decide) (by decide), hfd.2.2.2.2]; exact t1.symm
          exact Or.inr ⟨hEy, fq2_of hq1 hfd.1 hI_35.1, ht, rfl, hfc.1, hq1.sm (fdM_w hEy1 hfd hfc.2.1), hfc.2.2⟩
        · refine zr_aloadn X dX7_findCuts_40 rfl ?_
          refine zr_get X K (C := RX7) (T := TX7) (N := 20) (k := 14) mM_0 rfl rfl ti_7 (by decide) rfl tw_714 rfl dX7_findCuts_41 ?_
          refine zr_sipush X dX7_findCuts_44 rfl ?_
          refine zr_icmp_ge X 79 dX7_findCuts_47 (by decide) ⟨by omega, by omega⟩ ⟨by omega, by omega⟩ (fun t_47 => ?_) (fun f_47 => ?_)
          · refine zr_aloadn X dX7_findCuts_79 rfl ?_
            refine zr_get X K (C := RX7) (T := TX7) (N := 20) (k := 14) mM_0 rfl rfl ti_7 (by decide) rfl tw_714 rfl dX7_findCuts_80 ?_
            refine zr_iret X hr dX7_findCuts_83 ?_
            have hfc := mc_end hI_35 (by omega)
            have n2 : τ1 (4, 2) 0 = σ (4, 2) 0 := (congrFun (hfd.1 (4, 2) (by decide)) 0).trans e2
            have hK : mcM σ1 = mcM σ := by
              unfold mcM
              rw [e4, e5, e6, e7, e8, e3]
            rw [fdM_k hfd, hK, n2] at hfc
            have ht : ω (4, 1) 0 = 0 := by rw [hI_35.1 (4, 1) (by decide) (by decide), hfd.2.2.2.2]; exact t1.symm
            exact Or.inr ⟨hEy, fq2_of hq1 hfd.1 hI_35.1, ht, rfl, hfc.1, hq1.sm (fdM_w hEy1 hfd hfc.2.1), hfc.2.2⟩
          · have hinc := (mc_c hI_35).resolve_left (by omega)
            refine zr_aloadn X dX7_findCuts_50 rfl ?_
            refine zr_get X K (C := RX7) (T := TX7) (N := 20) (k := 13) mM_0 rfl rfl ti_7 (by decide) rfl tw_713 rfl dX7_findCuts_51 ?_
            refine zr_aloadn X dX7_findCuts_54 rfl ?_
            refine zr_get X K (C := RX7) (T := TX7) (N := 20) (k := 14) mM_0 rfl rfl ti_7 (by decide) rfl tw_714 rfl dX7_findCuts_55 ?_
            refine zr_iloadn X dX7_findCuts_58 rfl ?_
            refine zr_iast X K (n := 300) mM_14 (fun _ => rfl) rfl (by decide) (by omega) dX7_findCuts_59 ?_
            generalize hm_σ3 : mset ω (4, 14) (ω (4, 15) 0) c = σ3
            refine zr_aloadn X dX7_findCuts_60 rfl ?_
            refine zr_dup X dX7_findCuts_61 rfl ?_
            refine zr_get X K (C := RX7) (T := TX7) (N := 20) (k := 14) mM_0 rfl rfl ti_7 (by decide) rfl tw_714 rfl dX7_findCuts_62 ?_
            refine zr_iconst X dX7_findCuts_65 ?_
            refine zr_iadd X dX7_findCuts_66 ?_
            refine zr_put X K (q := (4, 15)) (C := RX7) (T := TX7) (ty0 := tyX7) (N := 20) (k := 14) mM_0 (fun _ => rfl) (by simp [mset]) rfl rfl ti_7 tyX7_ok nmX7 (by decide) rfl tw_714 rfl rfl rfl (Nat.le_of_ble_eq_true rfl) dX7_findCuts_67 ?_
            generalize hm_σ4 : mset σ3 (4, 15) 0 ((σ3 (4, 15) 0) + 1) = σ4
            have hmid := mc_mid hI_35 hm_σ3 hm_σ4
            refine zr_aloadn X dX7_findCuts_70 rfl ?_
            refine zr_iloadn X dX7_findCuts_71 rfl ?_
            refine zr_callVI X K (q := (RX7, TX7, 20)) (st := []) (c_X7_cutBehind l D cs ad hap (σ := σ4) (hmid.1.net hNt) (hmid.1.rt hfd.2.1) (hmid.1.ey hEt) (q := c) (by rw [hmid.1 (4, 2) (by decide) (by decide)]; exact hinc)) ⟨tw_939, tw_941, tp_54, tw_8, tw_942⟩ dc_X7_cutBehind mM_0 rfl rfl rfl rfl rfl (Nat.le_of_ble_eq_true rfl) (by decide) dX7_findCuts_72 ?_
            intro z τ_ hp_
            obtain ⟨hτ_, hz⟩ := hp_
            subst τ_
            rw [hmid.1.k, hmid.1 (4, 2) (by decide) (by decide)] at hz
            refine zr_istoren X dX7_findCuts_75 (by decide) rfl ?_
            refine zr_goto X 35 dX7_findCuts_76 (by decide) ?_
            refine Wx.weak (lo' := [some (.ref (ad (4, 0))), some (jI z)]) ⟨rfl, rfl, trivial⟩ ?_
            have hs := mc_s hI_35 (by omega) (by omega) hmid hz
            exact ih_35 _ _ hs (by rw [hmid.2.1]; omega)
    refine Wx.weak (lo' := [some (.ref (ad (4, 0))), some (jI z)]) ⟨rfl, rfl, trivial⟩ ?_
    exact loop_35 _ _ _ (mc_0 hm_σ2 (fdM_1 hEy1 hfd f2 hcl)) (Nat.lt_succ_self _)
  · have hEn : mEn σ := hEs.resolve_right (fun q => by unfold mEy at q; omega)
    refine zr_aloadn X dX7_findCuts_13 rfl ?_
    refine zr_iconst X dX7_findCuts_14 ?_
    refine zr_callVI X K (q := (RX7, TX7, 20)) (st := []) (c_X7_fail l D cs ad hap (σ := σ1) (k := 1)) ⟨tw_769, tw_771, tp_38, tw_8, tw_772⟩ dc_X7_fail mM_0 rfl rfl rfl rfl rfl (Nat.le_of_ble_eq_true rfl) (by decide) dX7_findCuts_15 ?_
    intro z τ hp
    obtain ⟨hτ, hz⟩ := hp
    have htt : τ (4, 1) 0 = 1 := by rw [hτ, mset_same]
    have hqf := hq1.tr (fq_set hτ.symm)
    refine zr_iret X hr dX7_findCuts_18 ?_
    exact Or.inl ⟨hEn, hqf, htt⟩

set_option maxHeartbeats 4000000 in
set_option maxRecDepth 100000 in
theorem c_X7_isBottleneck (l : Launch) (D : va_G) (cs : Nat → ClassId) (ad : Ix → Nat) (hap : Apart idsM ad) {σ : Mem} (h : mOk σ) {a : Int} (ha : rg a) : CI l D cs idsM ad yX7_isBottleneck cX7_isBottleneck 2 .boolean 4 [(.ref (ad (4, 0))), (jI a)] σ (fun z τ => fq σ τ ∧ (((mEn σ ∧ τ (4, 1) 0 = 1) ∨ (mEy σ ∧ ¬ (0 ≤ a ∧ a < σ (4, 3) 0) ∧ τ (4, 1) 0 = 2)) ∨ ((mEy σ ∧ (0 ≤ a ∧ a < σ (4, 3) 0)) ∧ τ (4, 1) 0 = 0 ∧ ((z = 0 ∨ z = 1) ∧ (z = 1 ↔ btM σ a))))) := by
  refine CI.of RX7 hap idsM_nd (by decide) rfl (Nat.le_of_ble_eq_true rfl) ?_
  intro pg ev s0 mi av bl mt cd X K hr
  refine zr_aloadn X dX7_isBottleneck_0 rfl ?_
  refine zr_aloadn X dX7_isBottleneck_1 rfl ?_
  refine zr_iloadn X dX7_isBottleneck_2 rfl ?_
  refine zr_callVI X K (q := (RX7, TX7, 20)) (st := [(.ref (ad (4, 0)))]) (c_X7_look l D cs ad hap (σ := σ) h (a := a) ha) ⟨tw_871, tw_873, tp_46, tw_8, tw_874⟩ dc_X7_look mM_0 rfl rfl rfl rfl rfl (Nat.le_of_ble_eq_true rfl) (by decide) dX7_isBottleneck_3 ?_
  intro y τ_ hp_
  obtain ⟨hτ_, hy⟩ := hp_
  subst τ_
  refine zr_put X K (q := (4, 1)) (C := RX7) (T := TX7) (ty0 := tyX7) (N := 20) (k := 0) mM_0 (fun _ => rfl) (by simp [mset]) rfl rfl ti_7 tyX7_ok nmX7 (by decide) rfl tw_700 rfl rfl rfl (Nat.le_of_ble_eq_true rfl) dX7_isBottleneck_6 ?_
  generalize hm_σ1 : mset σ (4, 1) 0 y = σ1
  have hq1 : fq σ σ1 := fq_set hm_σ1
  have t1 := congrArg (fun μ : Mem => μ (4, 1) 0) hm_σ1
  have h1 := hq1.ok h
  have hN := h1.1
  have hn := hN.1
  have hm := hN.2.1
  have hE := h1.2.2.1
  have hEs := h.2.2.1
  unfold mEn mEy at hE
  have e7 : σ1 (4, 7) 0 = σ (4, 7) 0 := congrFun (hq1 (4, 7) (by decide)) 0
  have e8 : σ1 (4, 8) 0 = σ (4, 8) 0 := congrFun (hq1 (4, 8) (by decide)) 0
  have e2 : σ1 (4, 2) 0 = σ (4, 2) 0 := congrFun (hq1 (4, 2) (by decide)) 0
  have e3 : σ1 (4, 3) 0 = σ (4, 3) 0 := congrFun (hq1 (4, 3) (by decide)) 0
  have e6 : σ1 (4, 6) = σ (4, 6) := hq1 (4, 6) (by decide)
  have e4 : σ1 (4, 4) = σ (4, 4) := hq1 (4, 4) (by decide)
  have e5 : σ1 (4, 5) = σ (4, 5) := hq1 (4, 5) (by decide)
  simp only [mset_same] at t1
  have hya : rg (σ1 (4, 1) 0) := by
    rw [← t1]
    rcases hy with q | q | q <;> exact ⟨by omega, by omega⟩
  refine zr_aloadn X dX7_isBottleneck_9 rfl ?_
  refine zr_get X K (C := RX7) (T := TX7) (N := 20) (k := 0) mM_0 rfl rfl ti_7 (by decide) rfl tw_700 rfl dX7_isBottleneck_10 ?_
  refine zr_if_ne X 25 dX7_isBottleneck_13 (by decide) hya (fun t_13 => ?_) (fun f_13 => ?_)
  · have hlk : (mEn σ ∧ σ1 (4, 1) 0 = 1) ∨ (mEy σ ∧ ¬ (0 ≤ a ∧ a < σ (4, 3) 0) ∧ σ1 (4, 1) 0 = 2) := by
      rcases hy with q | q | q
      · exact Or.inl ⟨q.2, by omega⟩
      · exact Or.inr ⟨q.2.1, q.2.2, by omega⟩
      · omega
    refine zr_iconst X dX7_isBottleneck_25 ?_
    refine zr_zret X hr dX7_isBottleneck_26 (by omega) ?_
    first | exact ⟨hq1, Or.inl hlk⟩ | exact ⟨hq1, Or.inr ⟨hyz.2, by omega, Or.inl rfl, fun q => absurd q (by decide), fun q => absurd q.1 (by omega)⟩⟩
  · have hyz : y = 0 ∧ mEy σ ∧ (0 ≤ a ∧ a < σ (4, 3) 0) := by
      rcases hy with q | q | q
      · omega
      · omega
      · exact q
    have hEy := hyz.2.1
    have hEy1 := hq1.ey hEy
    have hA : 0 ≤ a ∧ a < σ1 (4, 3) 0 := by omega
    have hNa := hN.2.2 a hA.1 hA.2
    have hca := h1.2.1 a hA.1 hA.2
    have f4 := congrFun e4 a
    have f5 := congrFun e5 a
    have f6 := congrFun e6 a
    refine zr_aloadn X dX7_isBottleneck_16 rfl ?_
    refine zr_get X K (C := RX7) (T := TX7) (N := 20) (k := 5) mM_0 rfl rfl ti_7 (by decide) rfl tw_705 rfl dX7_isBottleneck_17 ?_
    refine zr_iloadn X dX7_isBottleneck_20 rfl ?_
    refine zr_iald X K (n := 80) mM_6 rfl (by decide) (by omega) dX7_isBottleneck_21 ?_
    refine zr_if_ne X 27 dX7_isBottleneck_22 (by decide) ⟨by omega, by omega⟩ (fun t_22 => ?_) (fun f_22 => ?_)
    · refine zr_aloadn X dX7_isBottleneck_27 rfl ?_
      refine zr_callVV X K (q := (RX7, TX7, 20)) (st := []) (c_X7_findReached l D cs ad hap (σ := σ1) h1 hEy1) ⟨tw_919, tw_921, tp_51, tw_8, tw_922⟩ dc_X7_findReached mM_0 rfl rfl rfl rfl rfl (Nat.le_of_ble_eq_true rfl) (by decide) dX7_isBottleneck_28 ?_
      intro τ1 hfd
      have hNt := (hfd.1.ok h1).1
      have hEt := hfd.1.ey hEy1
      have g4 : τ1 (4, 4) a = σ1 (4, 4) a := congrFun (hfd.1 (4, 4) (by decide)) a
      have g5 : τ1 (4, 5) a = σ1 (4, 5) a := congrFun (hfd.1 (4, 5) (by decide)) a
      have g3 : τ1 (4, 3) 0 = σ1 (4, 3) 0 := congrFun (hfd.1 (4, 3) (by decide)) 0
      have g2 : τ1 (4, 2) 0 = σ1 (4, 2) 0 := congrFun (hfd.1 (4, 2) (by decide)) 0
      have tx : τ1 (4, 1) 0 = 0 := by rw [hfd.2.2.2.2]; omega
      refine zr_aloadn X dX7_isBottleneck_31 rfl ?_
      refine zr_iconst X dX7_isBottleneck_32 ?_
      refine zr_aloadn X dX7_isBottleneck_33 rfl ?_
      refine zr_get X K (C := RX7) (T := TX7) (N := 20) (k := 3) mM_0 rfl rfl ti_7 (by decide) rfl tw_703 rfl dX7_isBottleneck_34 ?_
      refine zr_iloadn X dX7_isBottleneck_37 rfl ?_
      refine zr_iald X K (n := 80) mM_4 rfl (by decide) (by omega) dX7_isBottleneck_38 ?_
      refine zr_ishl X dX7_isBottleneck_39 (zb_shl (by omega) (by omega)) ?_
      refine zr_iconst X dX7_isBottleneck_40 ?_
      refine zr_aloadn X dX7_isBottleneck_41 rfl ?_
      refine zr_get X K (C := RX7) (T := TX7) (N := 20) (k := 4) mM_0 rfl rfl ti_7 (by decide) rfl tw_704 rfl dX7_isBottleneck_42 ?_
      refine zr_iloadn X dX7_isBottleneck_45 rfl ?_
      refine zr_iald X K (n := 80) mM_5 rfl (by decide) (by omega) dX7_isBottleneck_46 ?_
      refine zr_ishl X dX7_isBottleneck_47 (zb_shl (by omega) (by omega)) ?_
      refine zr_callVI X K (q := (RX7, TX7, 20)) (st := []) (c_X7_closed l D cs ad hap (σ := τ1) hNt hfd.2.1 hEt (q := pI (τ1 (4, 4) a)) (p := pI (τ1 (4, 5) a)) ⟨pI_rg (by omega), fun v v0 b => by rw [bt_p (by omega) v0, decide_eq_true_eq] at b; omega⟩ (pI_rg (by omega))) ⟨tw_935, tw_937, tp_53, tw_8, tw_938⟩ dc_X7_closed mM_0 rfl rfl rfl rfl rfl (Nat.le_of_ble_eq_true rfl) (by decide) dX7_isBottleneck_48 ?_
      intro z τ_ hp_
      obtain ⟨hτ_, hcl⟩ := hp_
      subst τ_
      have hcl2 := hcl
      rw [g4, g5] at hcl2
      have hb := bt_of hEy1 hfd hN hA hcl2
      rw [e4, e5, show mcM σ1 = mcM σ by unfold mcM; rw [e4, e5, e6, e7, e8, e3]] at hb
      refine zr_iconst X dX7_isBottleneck_51 ?_
      refine zr_icmp_eq X 59 dX7_isBottleneck_52 (by decide) (cl_rg hcl) ⟨by decide, by decide⟩ (fun t_52 => ?_) (fun f_52 => ?_)
      · refine zr_iconst X dX7_isBottleneck_59 ?_
        refine zr_zret X hr dX7_isBottleneck_60 (by omega) ?_
        exact ⟨hq1.tr hfd.1, Or.inr ⟨hyz.2, tx, Or.inl rfl, fun q => absurd q (by decide), fun q => absurd (hb.mpr q.2) (by omega)⟩⟩
      · refine zr_iconst X dX7_isBottleneck_55 ?_
        refine zr_goto X 60 dX7_isBottleneck_56 (by decide) ?_
        refine zr_zret X hr dX7_isBottleneck_60 (by omega) ?_
        exact ⟨hq1.tr hfd.1, Or.inr ⟨hyz.2, tx, Or.inr rfl, fun _ => ⟨by omega, hb.mp (by omega)⟩, fun _ => rfl⟩⟩
    · refine zr_iconst X dX7_isBottleneck_25 ?_
      refine zr_zret X hr dX7_isBottleneck_26 (by omega) ?_
      first | exact ⟨hq1, Or.inl hlk⟩ | exact ⟨hq1, Or.inr ⟨hyz.2, by omega, Or.inl rfl, fun q => absurd q (by decide), fun q => absurd q.1 (by omega)⟩⟩
