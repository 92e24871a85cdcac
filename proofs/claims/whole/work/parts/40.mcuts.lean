/-! THE REFERENCE: cuts -/
def cutM (σ : Mem) (m : Int) : Prop := (0 ≤ m ∧ m < pI (σ (4, 2) 0)) ∧ bt m (σ (4, 7) 0) = true ∧ ¬ bt m (σ (4, 8) 0) = true
def gcF (σ : Mem) (q a : Int) : Int := if bt q (σ (4, 4) a) = true ∧ ¬ bt q (σ (4, 5) a) = true then σ (4, 6) a else 0
abbrev mcM (σ : Mem) (X : Int → Bool) : Prop := mcut (σ (4, 3) 0).toNat (σ (4, 4)) (σ (4, 5)) (σ (4, 6)) (σ (4, 7) 0) (σ (4, 8) 0) X
def rcPM (σ : Mem) (v z : Int) : Prop := inN (σ (4, 2) 0) z ∧ bt z v = true ∧ rcl σ (bt z) ∧ ∀ X, rcl σ X → X v = true → ∀ u, 0 ≤ u → bt z u = true → X u = true
def fr3 (σ τ : Mem) : Prop := ∀ p : Ix, p ∉ [((4, 18) : Ix), (4, 19), (4, 20)] → τ p = σ p
theorem fr3.cl {σ τ : Mem} (f : fr3 σ τ) {X : Int → Bool} : rcl τ X ↔ rcl σ X := by
  unfold rcl
  rw [f (4, 3) (by decide), f (4, 4) (by decide), f (4, 5) (by decide), f (4, 16) (by decide), f (4, 17) (by decide)]
theorem fr3.net {σ τ : Mem} (f : fr3 σ τ) (h : mNet σ) : mNet τ := by
  unfold mNet at h ⊢
  rw [f (4, 2) (by decide), f (4, 3) (by decide), f (4, 4) (by decide), f (4, 5) (by decide)]
  exact h
theorem fr3.res {σ τ : Mem} (f : fr3 σ τ) (h : mRes σ) : mRes τ := by
  unfold mRes at h ⊢
  rw [f (4, 3) (by decide), f (4, 16) (by decide), f (4, 17) (by decide)]
  exact h
theorem fr3.tr {σ τ υ : Mem} (h : fr3 σ τ) (k : fr3 τ υ) : fr3 σ υ := fun p hp => (k p hp).trans (h p hp)
theorem fr3_r {σ τ : Mem} (f : frR σ τ) : fr3 σ τ := fun p hp => by
  simp only [List.mem_cons, List.not_mem_nil, or_false, not_or] at hp
  exact f p hp.1 hp.2.1
theorem fr3_s {σ τ : Mem} {i x : Int} (e : mset σ (4, 20) i x = τ) : fr3 σ τ := fun p hp => by
  simp only [List.mem_cons, List.not_mem_nil, or_false, not_or] at hp
  rw [← e, mset_id hp.2.2]
theorem fr3.rc {σ τ : Mem} (f : fr3 σ τ) {v z : Int} : rcPM τ v z ↔ rcPM σ v z := by
  unfold rcPM
  rw [f (4, 2) (by decide)]
  constructor
  · rintro ⟨a, b, c, d⟩
    exact ⟨a, b, f.cl.mp c, fun X hX => d X (f.cl.mpr hX)⟩
  · rintro ⟨a, b, c, d⟩
    exact ⟨a, b, f.cl.mpr c, fun X hX => d X (f.cl.mp hX)⟩
/-- the mask of what was reached, node by node -/
def frI (υ ω : Mem) (v k : Int) : Prop := (∀ p : Ix, p ≠ (4, 20) → ω p = υ p) ∧ (∀ j, j ≠ v → ω (4, 20) j = υ (4, 20) j) ∧ mk24 (ω (4, 20) v) ∧ ∀ u, 0 ≤ u → (bt (ω (4, 20) v) u = true ↔ u < k ∧ mkd υ u = true)
theorem frI_0 {υ ω : Mem} {v : Int} (e : mset υ (4, 20) v 0 = ω) : frI υ ω v 0 := ⟨fun p hp => by rw [← e, mset_id hp], fun j hj => by rw [← e, mset_ix hj], by rw [← e, mset_same]; exact ⟨by decide, by decide⟩, fun u hu => ⟨fun g => by
  rw [← e, mset_same] at g
  unfold bt at g
  simp at g, fun g => by omega⟩⟩
theorem frI_s {υ ω τ : Mem} {v k x : Int} (h : frI υ ω v k) (hk : 0 ≤ k ∧ k < 24) (hx : (x = pI k ∧ mkd υ k = true) ∨ (x = 0 ∧ ¬ mkd υ k = true)) (e : mset ω (4, 20) v (oI (ω (4, 20) v) x) = τ) : frI υ τ v (k + 1) := by
  obtain ⟨h1, h2, h3, h4⟩ := h
  have hp := pI_rg hk.2
  refine ⟨fun p hp => by rw [← e, mset_id hp, h1 p hp], fun j hj => by rw [← e, mset_ix hj, h2 j hj], ?_, fun u hu => ?_⟩
  · rw [← e, mset_same]
    exact oI_lt h3.2 (by rcases hx with g | g <;> rw [g.1] <;> omega)
  · rw [← e, mset_same, bt_o, Bool.or_eq_true, h4 u hu]
    rcases hx with ⟨g, g2⟩ | ⟨g, g2⟩
    · rw [g, bt_p hk.1 hu, decide_eq_true_eq]
      constructor
      · rintro (⟨a, b⟩ | a)
        · exact ⟨by omega, b⟩
        · rw [← a]; exact ⟨by omega, g2⟩
      · rintro ⟨a, b⟩
        by_cases q : k = u
        · exact Or.inr q
        · exact Or.inl ⟨by omega, b⟩
    · have z : ¬ bt x u = true := fun q => by rw [g] at q; unfold bt at q; simp at q
      constructor
      · rintro (⟨a, b⟩ | a)
        · exact ⟨by omega, b⟩
        · exact absurd a z
      · rintro ⟨a, b⟩
        by_cases q : k = u
        · rw [q] at g2; exact absurd b g2
        · exact Or.inl ⟨by omega, b⟩
theorem frI_end {σ υ ω : Mem} {v k : Int} (hN : mNet υ) (hv : 0 ≤ v ∧ v < 24) (hr : rhP σ υ v) (h : frI υ ω v k) (hk : k = υ (4, 2) 0) : rcPM ω v (ω (4, 20) v) := by
  obtain ⟨hf, ⟨rk, q, hT, hq⟩, hcl⟩ := hr
  obtain ⟨h1, h2, h3, h4⟩ := h
  have f : fr3 υ ω := fun p hp => by
    simp only [List.mem_cons, List.not_mem_nil, or_false, not_or] at hp
    exact h1 p hp.2.2
  have hn := hN.1
  have key : ∀ u, 0 ≤ u → u < υ (4, 2) 0 → (bt (ω (4, 20) v) u = true ↔ mkd υ u = true) := fun u u0 u1 => by
    rw [h4 u u0, hk]
    exact ⟨fun g => g.2, fun g => ⟨u1, g⟩⟩
  have vn := (hT.2.1 v hv.1 hv.2 hT.root).2
  rw [f.rc]
  refine ⟨⟨h3, fun u u0 g => ?_⟩, (key v hv.1 vn).mpr hT.root, fun a a0 a1 => ?_, fun X hX x u u0 g => ?_⟩
  · have := ((h4 u u0).mp g).1
    omega
  · have hNa := hN.2.2 a a0 (by omega)
    have c := hcl a a0 a1
    rw [key _ hNa.1.1 hNa.1.2, key _ hNa.2.1.1 hNa.2.1.2]
    exact c
  · have := (h4 u u0).mp g
    exact hT.2.2.2 X hX x u u0 (by omega) this.2
theorem rh_rg {σ τ : Mem} {u v : Int} (hN : mNet τ) (h : rhP σ τ u) (hv : 0 ≤ v ∧ v < 24) : rg (τ (4, 18) v) := by
  obtain ⟨-, ⟨rk, q, hT, -⟩, -⟩ := h
  have hm := hN.2.1
  by_cases g : mkd τ v = true
  · by_cases e : v = u
    · rw [e, hT.1]; exact ⟨by decide, by decide⟩
    · have := (hT.2.2.1 v hv.1 hv.2 g e).1
      exact ⟨by omega, by omega⟩
  · rw [mkd_not.mp g]; exact ⟨by decide, by decide⟩
def rtM (σ : Mem) : Prop := ∀ v, 0 ≤ v → v < σ (4, 2) 0 → rcPM σ v (σ (4, 20) v)
def fdI (τ1 ω : Mem) (v : Int) : Prop := fr3 τ1 ω ∧ ∀ u, 0 ≤ u → u < v → rcPM τ1 u (ω (4, 20) u)
theorem fdI_s {τ1 ω υ ψ : Mem} {v : Int} (h : fdI τ1 ω v) (hf : frR ω υ) (k : ∃ k, frI υ ψ v k) (hr : rcPM ψ v (ψ (4, 20) v)) : fdI τ1 ψ (v + 1) := by
  obtain ⟨x, k1, k2, -, -⟩ := k
  have f2 : fr3 τ1 ψ := (h.1.tr (fr3_r hf)).tr (fun p hp => by
    simp only [List.mem_cons, List.not_mem_nil, or_false, not_or] at hp
    exact k1 p hp.2.2)
  refine ⟨f2, fun u u0 u1 => ?_⟩
  by_cases q : u = v
  · rw [q]
    exact f2.rc.mp hr
  · rw [k2 u q, hf (4, 20) (by decide) (by decide)]
    exact h.2 u u0 (by omega)
/-- what findReached leaves -/
def fdM (σ τ : Mem) : Prop := fq σ τ ∧ rtM τ ∧ (∀ X : Int → Bool, X (σ (4, 7) 0) = true → ¬ X (σ (4, 8) 0) = true → (rcl τ X ↔ mcM σ X)) ∧ (∃ S : Int → Bool, S (σ (4, 7) 0) = true ∧ ¬ S (σ (4, 8) 0) = true ∧ rcl τ S) ∧ τ (4, 1) 0 = σ (4, 1) 0
theorem fdM_of {σ τ1 τ : Mem} {F : Int} (hm : 0 ≤ σ (4, 3) 0) (hst : mstP σ τ1 (σ (4, 6)) (σ (4, 7) 0) (σ (4, 8) 0) F) (h : fdI τ1 τ (τ1 (4, 2) 0)) : fdM σ τ := by
  obtain ⟨f, k⟩ := h
  refine ⟨fun p hp => ?_, fun v v0 v1 => ?_, fun X x1 x2 => ?_, ?_, ?_⟩
  · simp only [List.mem_cons, List.not_mem_nil, or_false, not_or] at hp
    rw [f p (by simp only [List.mem_cons, List.not_mem_nil, or_false, not_or]; exact ⟨hp.2.2.2.1, hp.2.2.2.2.1, hp.2.2.2.2.2⟩)]
    exact hst.1 p (by simp only [List.mem_cons, List.not_mem_nil, or_false, not_or]; exact ⟨hp.2.1, hp.2.2.1, hp.2.2.2.1, hp.2.2.2.2.1⟩)
  · rw [f (4, 2) (by decide)] at v1
    exact f.rc.mpr (k v v0 v1)
  · rw [f.cl]
    exact mst_cl hm hst x1 x2
  · obtain ⟨S, s1, s2, s3⟩ := hst.2.2.2.2
    exact ⟨S, s1, s2, f.cl.mpr s3⟩
  · rw [f (4, 1) (by decide), hst.1 (4, 1) (by decide)]
def smM (σ : Mem) (z : Int) : Prop := mk24 z ∧ ∀ v, 0 ≤ v → (bt z v = true ↔ ∀ X, mcM σ X → X v = true)
def gtM (σ : Mem) (z : Int) : Prop := mk24 z ∧ ∀ v, 0 ≤ v → (bt z v = true ↔ v < σ (4, 2) 0 ∧ ∃ X, mcM σ X ∧ X v = true)
theorem smM_of {σ τ : Mem} {z : Int} (hE : mEy σ) (h : fdM σ τ) (k : rcPM τ (σ (4, 7) 0) z) : smM σ z := by
  obtain ⟨-, -, h3, ⟨S, s1, s2, s3⟩, -⟩ := h
  have ht : ¬ bt z (σ (4, 8) 0) = true := fun q => s2 (k.2.2.2 S s3 s1 _ hE.2.1.1 q)
  refine ⟨k.1.1, fun v hv => ⟨fun q X hX => ?_, fun q => ?_⟩⟩
  · exact k.2.2.2 X ((h3 X hX.1 hX.2.1).mpr hX) hX.1 v hv q
  · exact q _ ((h3 _ k.2.1 ht).mp k.2.2.1)
def gmI (σ τ : Mem) (w k : Int) : Prop := mk24 w ∧ ∀ v, 0 ≤ v → (bt w v = true ↔ v < k ∧ ¬ bt (τ (4, 20) v) (σ (4, 8) 0) = true)
theorem gmI_0 {σ τ : Mem} : gmI σ τ 0 0 := ⟨⟨by decide, by decide⟩, fun v hv => ⟨fun g => by unfold bt at g; simp at g, fun g => by omega⟩⟩
theorem gmI_s {σ τ : Mem} {w k x : Int} (h : gmI σ τ w k) (hk : 0 ≤ k ∧ k < 24) (hx : (x = 0 ∧ bt (τ (4, 20) k) (σ (4, 8) 0) = true) ∨ (x = pI k ∧ ¬ bt (τ (4, 20) k) (σ (4, 8) 0) = true)) : gmI σ τ (oI w x) (k + 1) := by
  have hp := pI_rg hk.2
  refine ⟨oI_lt h.1.2 (by rcases hx with g | g <;> rw [g.1] <;> omega), fun v hv => ?_⟩
  rw [bt_o, Bool.or_eq_true, h.2 v hv]
  rcases hx with ⟨g, g2⟩ | ⟨g, g2⟩
  · have z : ¬ bt x v = true := fun q => by rw [g] at q; unfold bt at q; simp at q
    constructor
    · rintro (⟨a, b⟩ | a)
      · exact ⟨by omega, b⟩
      · exact absurd a z
    · rintro ⟨a, b⟩
      by_cases q : v = k
      · rw [q] at b; exact absurd g2 b
      · exact Or.inl ⟨by omega, b⟩
  · rw [g, bt_p hk.1 hv, decide_eq_true_eq]
    constructor
    · rintro (⟨a, b⟩ | a)
      · exact ⟨by omega, b⟩
      · rw [← a]; exact ⟨by omega, g2⟩
    · rintro ⟨a, b⟩
      by_cases q : k = v
      · exact Or.inr q
      · exact Or.inl ⟨by omega, b⟩
theorem gtM_of {σ τ : Mem} {w : Int} (hE : mEy σ) (h : fdM σ τ) (k : gmI σ τ w (σ (4, 2) 0)) : gtM σ w := by
  obtain ⟨hf, h2, h3, ⟨S, s1, s2, s3⟩, -⟩ := h
  have e2 : τ (4, 2) = σ (4, 2) := hf (4, 2) (by decide)
  refine ⟨k.1, fun v hv => ?_⟩
  rw [k.2 v hv]
  constructor
  · rintro ⟨a, b⟩
    have hr := h2 v hv (by rw [e2]; exact a)
    refine ⟨a, fun u => S u || bt (τ (4, 20) v) u, ?_, b_r hr.2.1⟩
    refine (h3 _ (b_l s1) (b_not s2 b)).mp fun c c0 c1 => ?_
    have p1 := s3 c c0 c1
    have p2 := hr.2.2.1 c c0 c1
    constructor
    · intro g r
      rcases (Bool.or_eq_true _ _).mp g with g | g
      · exact b_l (p1.1 g r)
      · exact b_r (p2.1 g r)
    · intro g r
      rcases (Bool.or_eq_true _ _).mp g with g | g
      · exact b_l (p1.2 g r)
      · exact b_r (p2.2 g r)
  · rintro ⟨a, X, x1, x2⟩
    have hr := h2 v hv (by rw [e2]; exact a)
    exact ⟨a, fun g => x1.2.1 (hr.2.2.2 X ((h3 X x1.1 x1.2.1).mpr x1) x2 _ hE.2.1.1 g)⟩
theorem fq.sm {σ τ : Mem} (f : fq σ τ) {z : Int} (h : smM τ z) : smM σ z := by
  unfold smM mcM at h ⊢
  rw [f (4, 3) (by decide), f (4, 4) (by decide), f (4, 5) (by decide), f (4, 6) (by decide), f (4, 7) (by decide), f (4, 8) (by decide)] at h
  exact h
theorem fq.gt {σ τ : Mem} (f : fq σ τ) {z : Int} (h : gtM τ z) : gtM σ z := by
  unfold gtM mcM at h ⊢
  rw [f (4, 2) (by decide), f (4, 3) (by decide), f (4, 4) (by decide), f (4, 5) (by decide), f (4, 6) (by decide), f (4, 7) (by decide), f (4, 8) (by decide)] at h
  exact h

set_option maxHeartbeats 4000000 in
set_option maxRecDepth 100000 in
theorem c_X7_capacityOf (l : Launch) (D : va_G) (cs : Nat → ClassId) (ad : Ix → Nat) (hap : Apart idsM ad) {σ : Mem} (h : mOk σ) {q : Int} (hq : mk24 q) : CI l D cs idsM ad yX7_capacityOf cX7_capacityOf 4 .int 1 [(.ref (ad (4, 0))), (jI q)] σ (fun z τ => τ = σ ∧ z = gcp (σ (4, 3) 0).toNat (σ (4, 4)) (σ (4, 5)) (σ (4, 6)) (bt q)) := by
  refine CI.of RX7 hap idsM_nd (by decide) rfl (Nat.le_of_ble_eq_true rfl) ?_
  intro pg ev s0 mi av bl mt cd X K hr
  have hN := h.1
  have hn := hN.1
  have hm := hN.2.1
  have hq0 := hq.1
  have hq1 := hq.2
  refine zr_iconst X dX7_capacityOf_0 ?_
  refine zr_istoren X dX7_capacityOf_1 (by decide) rfl ?_
  refine zr_iconst X dX7_capacityOf_2 ?_
  refine zr_istoren X dX7_capacityOf_3 (by decide) rfl ?_
  have loop_4 : ∀ (n_4 : Nat) (x : Int) (i : Int), ((0 ≤ i ∧ i ≤ σ (4, 3) 0) ∧ x = sm (gcF σ q) i.toNat) → (σ (4, 3) 0 - i).toNat < n_4 → Wx pg l ev (rmm 1 0 0) s0 mi av bl mt cd D cs idsM ad (Rg idsM ad) s0.heap 4 (MQ bl (qI D cs idsM ad ((fun z τ => τ = σ ∧ z = gcp (σ (4, 3) 0).toNat (σ (4, 4)) (σ (4, 5)) (σ (4, 6)) (bt q)))) av s0 0 0 (Rg idsM ad)) 0 0 σ 4 [some (.ref (ad (4, 0))), some (jI q), some (jI x), some (jI i)] [] := by
    intro n_4
    induction n_4 with
    | zero => exact fun x i hinv hn => absurd hn (Nat.not_lt_zero _)
    | succ n_4 ih_4 =>
      intro x i hI_4 hn_4
      have hi0 := hI_4.1
      have hx := hI_4.2
      refine zr_iloadn X dX7_capacityOf_4 rfl ?_
      refine zr_aloadn X dX7_capacityOf_5 rfl ?_
      refine zr_get X K (C := RX7) (T := TX7) (N := 20) (k := 2) mM_0 rfl rfl ti_7 (by decide) rfl tw_702 rfl dX7_capacityOf_6 ?_
      refine zr_icmp_ge X 59 dX7_capacityOf_9 (by decide) ⟨by omega, by omega⟩ ⟨by omega, by omega⟩ (fun t_9 => ?_) (fun f_9 => ?_)
      · refine zr_iloadn X dX7_capacityOf_59 rfl ?_
        refine zr_iret X hr dX7_capacityOf_60 ?_
        refine ⟨rfl, ?_⟩
        rw [hx, show i = σ (4, 3) 0 by omega]
        rfl
      · have hNi := hN.2.2 i hi0.1 (by omega)
        refine zr_iloadn X dX7_capacityOf_12 rfl ?_
        refine zr_aloadn X dX7_capacityOf_13 rfl ?_
        refine zr_iloadn X dX7_capacityOf_14 rfl ?_
        refine zr_aloadn X dX7_capacityOf_15 rfl ?_
        refine zr_get X K (C := RX7) (T := TX7) (N := 20) (k := 3) mM_0 rfl rfl ti_7 (by decide) rfl tw_703 rfl dX7_capacityOf_16 ?_
        refine zr_iloadn X dX7_capacityOf_19 rfl ?_
        refine zr_iald X K (n := 80) mM_4 rfl (by decide) (by omega) dX7_capacityOf_20 ?_
        refine zr_callVI X K (q := (RX7, TX7, 20)) (st := [(jI x)]) (c_X7_isIn l D cs ad hap (σ := σ) (m := q) (v := σ (4, 4) i) ⟨hq0, by omega⟩ ⟨by omega, by omega⟩) ⟨tw_903, tw_905, tp_48, tw_8, tw_906⟩ dc_X7_isIn mM_0 rfl rfl rfl rfl rfl (Nat.le_of_ble_eq_true rfl) (by decide) dX7_capacityOf_21 ?_
        intro z_ τ_ hp_
        obtain ⟨hτ_, hz_⟩ := hp_
        subst τ_
        subst z_
        refine zr_if_eq X 50 dX7_capacityOf_24 (by decide) ite01 (fun t_24 => ?_) (fun f_24 => ?_)
        · refine zr_iconst X dX7_capacityOf_50 ?_
          refine zr_iadd X dX7_capacityOf_51 ?_
          refine zr_istoren X dX7_capacityOf_52 (by decide) rfl ?_
          refine zr_iinc X dX7_capacityOf_53 rfl (by decide) rfl ?_
          refine zr_goto X 4 dX7_capacityOf_56 (by decide) ?_
          refine Wx.weak (lo' := [some (.ref (ad (4, 0))), some (jI q), some (jI (x + 0)), some (jI (i + 1))]) ⟨rfl, rfl, rfl, rfl, trivial⟩ ?_
          exact ih_4 _ _ ⟨⟨by omega, by omega⟩, by rw [sm_succ hi0.1, ← hx]; unfold gcF; (first | rw [if_neg (fun g => (ite0 t_24) g.1)] | rw [if_neg (fun g => g.2 (ite1 t_38))])⟩ (by omega)
        · refine zr_aloadn X dX7_capacityOf_27 rfl ?_
          refine zr_iloadn X dX7_capacityOf_28 rfl ?_
          refine zr_aloadn X dX7_capacityOf_29 rfl ?_
          refine zr_get X K (C := RX7) (T := TX7) (N := 20) (k := 4) mM_0 rfl rfl ti_7 (by decide) rfl tw_704 rfl dX7_capacityOf_30 ?_
          refine zr_iloadn X dX7_capacityOf_33 rfl ?_
          refine zr_iald X K (n := 80) mM_5 rfl (by decide) (by omega) dX7_capacityOf_34 ?_
          refine zr_callVI X K (q := (RX7, TX7, 20)) (st := [(jI x)]) (c_X7_isIn l D cs ad hap (σ := σ) (m := q) (v := σ (4, 5) i) ⟨hq0, by omega⟩ ⟨by omega, by omega⟩) ⟨tw_903, tw_905, tp_48, tw_8, tw_906⟩ dc_X7_isIn mM_0 rfl rfl rfl rfl rfl (Nat.le_of_ble_eq_true rfl) (by decide) dX7_capacityOf_35 ?_
          intro z_ τ_ hp_
          obtain ⟨hτ_, hz_⟩ := hp_
          subst τ_
          subst z_
          refine zr_if_ne X 50 dX7_capacityOf_38 (by decide) ite01 (fun t_38 => ?_) (fun f_38 => ?_)
          · refine zr_iconst X dX7_capacityOf_50 ?_
            refine zr_iadd X dX7_capacityOf_51 ?_
            refine zr_istoren X dX7_capacityOf_52 (by decide) rfl ?_
            refine zr_iinc X dX7_capacityOf_53 rfl (by decide) rfl ?_
            refine zr_goto X 4 dX7_capacityOf_56 (by decide) ?_
            refine Wx.weak (lo' := [some (.ref (ad (4, 0))), some (jI q), some (jI (x + 0)), some (jI (i + 1))]) ⟨rfl, rfl, rfl, rfl, trivial⟩ ?_
            exact ih_4 _ _ ⟨⟨by omega, by omega⟩, by rw [sm_succ hi0.1, ← hx]; unfold gcF; (first | rw [if_neg (fun g => (ite0 t_24) g.1)] | rw [if_neg (fun g => g.2 (ite1 t_38))])⟩ (by omega)
          · refine zr_aloadn X dX7_capacityOf_41 rfl ?_
            refine zr_get X K (C := RX7) (T := TX7) (N := 20) (k := 5) mM_0 rfl rfl ti_7 (by decide) rfl tw_705 rfl dX7_capacityOf_42 ?_
            refine zr_iloadn X dX7_capacityOf_45 rfl ?_
            refine zr_iald X K (n := 80) mM_6 rfl (by decide) (by omega) dX7_capacityOf_46 ?_
            refine zr_goto X 51 dX7_capacityOf_47 (by decide) ?_
            refine zr_iadd X dX7_capacityOf_51 ?_
            refine zr_istoren X dX7_capacityOf_52 (by decide) rfl ?_
            refine zr_iinc X dX7_capacityOf_53 rfl (by decide) rfl ?_
            refine zr_goto X 4 dX7_capacityOf_56 (by decide) ?_
            refine Wx.weak (lo' := [some (.ref (ad (4, 0))), some (jI q), some (jI (x + (σ (4, 6) i))), some (jI (i + 1))]) ⟨rfl, rfl, rfl, rfl, trivial⟩ ?_
            exact ih_4 _ _ ⟨⟨by omega, by omega⟩, by rw [sm_succ hi0.1, ← hx]; unfold gcF; rw [if_pos ⟨ite1 f_24, ite0 f_38⟩]⟩ (by omega)
  refine Wx.weak (lo' := [some (.ref (ad (4, 0))), some (jI q), some (jI 0), some (jI 0)]) ⟨rfl, rfl, rfl, rfl, trivial⟩ ?_
  exact loop_4 _ _ _ ⟨⟨by omega, by omega⟩, rfl⟩ (Nat.lt_succ_self _)

set_option maxHeartbeats 4000000 in
set_option maxRecDepth 100000 in
theorem c_X7_cutCapacity (l : Launch) (D : va_G) (cs : Nat → ClassId) (ad : Ix → Nat) (hap : Apart idsM ad) {σ : Mem} (h : mOk σ) {q : Int} (hq : rg q) : CI l D cs idsM ad yX7_cutCapacity cX7_cutCapacity 2 .int 2 [(.ref (ad (4, 0))), (jI q)] σ (fun z τ => fq σ τ ∧ ((mEn σ ∧ τ (4, 1) 0 = 1) ∨ (mEy σ ∧ ((¬ cutM σ q ∧ τ (4, 1) 0 = 2) ∨ (cutM σ q ∧ τ (4, 1) 0 = 0 ∧ z = gcp (σ (4, 3) 0).toNat (σ (4, 4)) (σ (4, 5)) (σ (4, 6)) (bt q)))))) := by
  refine CI.of RX7 hap idsM_nd (by decide) rfl (Nat.le_of_ble_eq_true rfl) ?_
  intro pg ev s0 mi av bl mt cd X K hr
  refine zr_aloadn X dX7_cutCapacity_0 rfl ?_
  refine zr_iconst X dX7_cutCapacity_1 ?_
  refine zr_put X K (q := (4, 1)) (C := RX7) (T := TX7) (ty0 := tyX7) (N := 20) (k := 0) mM_0 (fun _ => rfl) (by simp [mset]) rfl rfl ti_7 tyX7_ok nmX7 (by decide) rfl tw_700 rfl rfl rfl (Nat.le_of_ble_eq_true rfl) dX7_cutCapacity_2 ?_
  generalize hm_σ1 : mset σ (4, 1) 0 0 = σ1
  have hq1 : fq σ σ1 := fq_set hm_σ1
  have t1 := congrArg (fun μ : Mem => μ (4, 1) 0) hm_σ1
  have h1 := hq1.ok h
  have hN := h1.1
  have hn := hN.1
  have hm := hN.2.1
  have hE := h1.2.2.1
  have hEs := h.2.2.1
  unfold mEn mEy at hE
  have e7 : σ1 (4, 7) 0 = σ (4, 7) 0 := congrFun (hq1 (4, 7) (by decide)) 0
  have e8 : σ1 (4, 8) 0 = σ (4, 8) 0 := congrFun (hq1 (4, 8) (by decide)) 0
  have e2 : σ1 (4, 2) 0 = σ (4, 2) 0 := congrFun (hq1 (4, 2) (by decide)) 0
  have e3 : σ1 (4, 3) 0 = σ (4, 3) 0 := congrFun (hq1 (4, 3) (by decide)) 0
  have e6 : σ1 (4, 6) = σ (4, 6) := hq1 (4, 6) (by decide)
  have e4 : σ1 (4, 4) = σ (4, 4) := hq1 (4, 4) (by decide)
  have e5 : σ1 (4, 5) = σ (4, 5) := hq1 (4, 5) (by decide)
  simp only [mset_same] at t1
  have hpn := pI_le hn
  have hq1r := hq.1
  have hq2r := hq.2
  refine zr_aloadn X dX7_cutCapacity_5 rfl ?_
  refine zr_get X K (C := RX7) (T := TX7) (N := 20) (k := 6) mM_0 rfl rfl ti_7 (by decide) rfl tw_706 rfl dX7_cutCapacity_6 ?_
  refine zr_iconst X dX7_cutCapacity_9 ?_
  refine zr_icmp_ne X 19 dX7_cutCapacity_10 (by decide) ⟨by omega, by omega⟩ ⟨by omega, by omega⟩ (fun t_10 => ?_) (fun f_10 => ?_)
  · have hEy : mEy σ := hEs.resolve_left (fun q => by unfold mEn at q; omega)
    have hEy1 := hq1.ey hEy
    refine zr_iloadn X dX7_cutCapacity_19 rfl ?_
    refine zr_if_lt X 57 dX7_cutCapacity_20 (by decide) ⟨by omega, by omega⟩ (fun t_20 => ?_) (fun f_20 => ?_)
    · have hno : ¬ cutM σ q := fun g => by have := g.1; omega
      refine zr_aloadn X dX7_cutCapacity_57 rfl ?_
      refine zr_iconst X dX7_cutCapacity_58 ?_
      refine zr_callVI X K (q := (RX7, TX7, 20)) (st := []) (c_X7_fail l D cs ad hap (σ := σ1) (k := 2)) ⟨tw_769, tw_771, tp_38, tw_8, tw_772⟩ dc_X7_fail mM_0 rfl rfl rfl rfl rfl (Nat.le_of_ble_eq_true rfl) (by decide) dX7_cutCapacity_59 ?_
      intro z τ hp
      obtain ⟨hτ, hz⟩ := hp
      have htt : τ (4, 1) 0 = 2 := by rw [hτ, mset_same]
      have hqf := hq1.tr (fq_set hτ.symm)
      refine zr_iret X hr dX7_cutCapacity_62 ?_
      first | exact ⟨hqf, Or.inl ⟨hEn, htt⟩⟩ | exact ⟨hqf, Or.inr ⟨hEy, Or.inl ⟨hno, htt⟩⟩⟩
    · refine zr_iloadn X dX7_cutCapacity_23 rfl ?_
      refine zr_iconst X dX7_cutCapacity_24 ?_
      refine zr_aloadn X dX7_cutCapacity_25 rfl ?_
      refine zr_get X K (C := RX7) (T := TX7) (N := 20) (k := 1) mM_0 rfl rfl ti_7 (by decide) rfl tw_701 rfl dX7_cutCapacity_26 ?_
      refine zr_ishl X dX7_cutCapacity_29 (zb_shl (by omega) (by omega)) ?_
      refine zr_icmp_ge X 57 dX7_cutCapacity_30 (by decide) ⟨by omega, by omega⟩ ⟨by omega, by omega⟩ (fun t_30 => ?_) (fun f_30 => ?_)
      · have hno : ¬ cutM σ q := fun g => by have := g.1.2; rw [e2] at t_30; omega
        refine zr_aloadn X dX7_cutCapacity_57 rfl ?_
        refine zr_iconst X dX7_cutCapacity_58 ?_
        refine zr_callVI X K (q := (RX7, TX7, 20)) (st := []) (c_X7_fail l D cs ad hap (σ := σ1) (k := 2)) ⟨tw_769, tw_771, tp_38, tw_8, tw_772⟩ dc_X7_fail mM_0 rfl rfl rfl rfl rfl (Nat.le_of_ble_eq_true rfl) (by decide) dX7_cutCapacity_59 ?_
        intro z τ hp
        obtain ⟨hτ, hz⟩ := hp
        have htt : τ (4, 1) 0 = 2 := by rw [hτ, mset_same]
        have hqf := hq1.tr (fq_set hτ.symm)
        refine zr_iret X hr dX7_cutCapacity_62 ?_
        first | exact ⟨hqf, Or.inl ⟨hEn, htt⟩⟩ | exact ⟨hqf, Or.inr ⟨hEy, Or.inl ⟨hno, htt⟩⟩⟩
      · refine zr_aloadn X dX7_cutCapacity_33 rfl ?_
        refine zr_iloadn X dX7_cutCapacity_34 rfl ?_
        refine zr_aloadn X dX7_cutCapacity_35 rfl ?_
        refine zr_get X K (C := RX7) (T := TX7) (N := 20) (k := 6) mM_0 rfl rfl ti_7 (by decide) rfl tw_706 rfl dX7_cutCapacity_36 ?_
        refine zr_callVI X K (q := (RX7, TX7, 20)) (st := []) (c_X7_isIn l D cs ad hap (σ := σ1) (m := q) (v := σ1 (4, 7) 0) ⟨by omega, by omega⟩ ⟨by omega, by omega⟩) ⟨tw_903, tw_905, tp_48, tw_8, tw_906⟩ dc_X7_isIn mM_0 rfl rfl rfl rfl rfl (Nat.le_of_ble_eq_true rfl) (by decide) dX7_cutCapacity_39 ?_
        intro z_ τ_ hp_
        obtain ⟨hτ_, hz_⟩ := hp_
        subst τ_
        subst z_
        refine zr_if_eq X 57 dX7_cutCapacity_42 (by decide) ite01 (fun t_42 => ?_) (fun f_42 => ?_)
        · have hno : ¬ cutM σ q := fun g => ite0 t_42 (by rw [e7]; exact g.2.1)
          refine zr_aloadn X dX7_cutCapacity_57 rfl ?_
          refine zr_iconst X dX7_cutCapacity_58 ?_
          refine zr_callVI X K (q := (RX7, TX7, 20)) (st := []) (c_X7_fail l D cs ad hap (σ := σ1) (k := 2)) ⟨tw_769, tw_771, tp_38, tw_8, tw_772⟩ dc_X7_fail mM_0 rfl rfl rfl rfl rfl (Nat.le_of_ble_eq_true rfl) (by decide) dX7_cutCapacity_59 ?_
          intro z τ hp
          obtain ⟨hτ, hz⟩ := hp
          have htt : τ (4, 1) 0 = 2 := by rw [hτ, mset_same]
          have hqf := hq1.tr (fq_set hτ.symm)
          refine zr_iret X hr dX7_cutCapacity_62 ?_
          first | exact ⟨hqf, Or.inl ⟨hEn, htt⟩⟩ | exact ⟨hqf, Or.inr ⟨hEy, Or.inl ⟨hno, htt⟩⟩⟩
        · refine zr_aloadn X dX7_cutCapacity_45 rfl ?_
          refine zr_iloadn X dX7_cutCapacity_46 rfl ?_
          refine zr_aloadn X dX7_cutCapacity_47 rfl ?_
          refine zr_get X K (C := RX7) (T := TX7) (N := 20) (k := 7) mM_0 rfl rfl ti_7 (by decide) rfl tw_707 rfl dX7_cutCapacity_48 ?_
          refine zr_callVI X K (q := (RX7, TX7, 20)) (st := []) (c_X7_isIn l D cs ad hap (σ := σ1) (m := q) (v := σ1 (4, 8) 0) ⟨by omega, by omega⟩ ⟨by omega, by omega⟩) ⟨tw_903, tw_905, tp_48, tw_8, tw_906⟩ dc_X7_isIn mM_0 rfl rfl rfl rfl rfl (Nat.le_of_ble_eq_true rfl) (by decide) dX7_cutCapacity_51 ?_
          intro z_ τ_ hp_
          obtain ⟨hτ_, hz_⟩ := hp_
          subst τ_
          subst z_
          refine zr_if_eq X 63 dX7_cutCapacity_54 (by decide) ite01 (fun t_54 => ?_) (fun f_54 => ?_)
          · have hyes : cutM σ q := ⟨⟨by omega, by rw [← e2]; omega⟩, by rw [← e7]; exact ite1 f_42, by rw [← e8]; exact ite0 t_54⟩
            refine zr_aloadn X dX7_cutCapacity_63 rfl ?_
            refine zr_iloadn X dX7_cutCapacity_64 rfl ?_
            refine zr_callVI X K (q := (RX7, TX7, 20)) (st := []) (c_X7_capacityOf l D cs ad hap (σ := σ1) h1 (q := q) ⟨by omega, by omega⟩) ⟨tw_907, tw_909, tp_49, tw_8, tw_910⟩ dc_X7_capacityOf mM_0 rfl rfl rfl rfl rfl (Nat.le_of_ble_eq_true rfl) (by decide) dX7_cutCapacity_65 ?_
            intro z_ τ_ hp_
            obtain ⟨hτ_, hz_⟩ := hp_
            subst τ_
            subst z_
            refine zr_iret X hr dX7_cutCapacity_68 ?_
            exact ⟨hq1, Or.inr ⟨hEy, Or.inr ⟨hyes, t1.symm, by rw [e3, e4, e5, e6]⟩⟩⟩
          · have hno : ¬ cutM σ q := fun g => g.2.2 (by rw [← e8]; exact ite1 f_54)
            refine zr_aloadn X dX7_cutCapacity_57 rfl ?_
            refine zr_iconst X dX7_cutCapacity_58 ?_
            refine zr_callVI X K (q := (RX7, TX7, 20)) (st := []) (c_X7_fail l D cs ad hap (σ := σ1) (k := 2)) ⟨tw_769, tw_771, tp_38, tw_8, tw_772⟩ dc_X7_fail mM_0 rfl rfl rfl rfl rfl (Nat.le_of_ble_eq_true rfl) (by decide) dX7_cutCapacity_59 ?_
            intro z τ hp
            obtain ⟨hτ, hz⟩ := hp
            have htt : τ (4, 1) 0 = 2 := by rw [hτ, mset_same]
            have hqf := hq1.tr (fq_set hτ.symm)
            refine zr_iret X hr dX7_cutCapacity_62 ?_
            first | exact ⟨hqf, Or.inl ⟨hEn, htt⟩⟩ | exact ⟨hqf, Or.inr ⟨hEy, Or.inl ⟨hno, htt⟩⟩⟩
  · have hEn : mEn σ := hEs.resolve_right (fun q => by unfold mEy at q; omega)
    refine zr_aloadn X dX7_cutCapacity_13 rfl ?_
    refine zr_iconst X dX7_cutCapacity_14 ?_
    refine zr_callVI X K (q := (RX7, TX7, 20)) (st := []) (c_X7_fail l D cs ad hap (σ := σ1) (k := 1)) ⟨tw_769, tw_771, tp_38, tw_8, tw_772⟩ dc_X7_fail mM_0 rfl rfl rfl rfl rfl (Nat.le_of_ble_eq_true rfl) (by decide) dX7_cutCapacity_15 ?_
    intro z τ hp
    obtain ⟨hτ, hz⟩ := hp
    have htt : τ (4, 1) 0 = 1 := by rw [hτ, mset_same]
    have hqf := hq1.tr (fq_set hτ.symm)
    refine zr_iret X hr dX7_cutCapacity_18 ?_
    first | exact ⟨hqf, Or.inl ⟨hEn, htt⟩⟩ | exact ⟨hqf, Or.inr ⟨hEy, Or.inl ⟨hno, htt⟩⟩⟩

set_option maxHeartbeats 4000000 in
set_option maxRecDepth 100000 in
theorem c_X7_findReached (l : Launch) (D : va_G) (cs : Nat → ClassId) (ad : Ix → Nat) (hap : Apart idsM ad) {σ : Mem} (h : mOk σ) (hEy : mEy σ) : CV l D cs idsM ad yX7_findReached cX7_findReached 4 3 [(.ref (ad (4, 0)))] σ (fun τ => fdM σ τ) := by
  refine CV.of RX7 hap idsM_nd (by decide) rfl (Nat.le_of_ble_eq_true rfl) ?_
  intro pg ev s0 mi av bl mt cd X K hr
  have hN := h.1
  have hn := hN.1
  have hm := hN.2.1
  refine zr_aloadn X dX7_findReached_0 rfl ?_
  refine zr_callVI X K (q := (RX7, TX7, 20)) (st := []) (c_X7_maximumNow l D cs ad hap (σ := σ) hN h.c2 hEy (h.cut hEy)) ⟨tw_845, tw_847, tp_41, tw_8, tw_848⟩ dc_X7_maximumNow mM_0 rfl rfl rfl rfl rfl (Nat.le_of_ble_eq_true rfl) (by decide) dX7_findReached_1 ?_
  intro F τ1 hst
  have hmn := mst_mn hm.1 hst
  have hN1 := hst.1.net hN
  have u2 : τ1 (4, 2) 0 = σ (4, 2) 0 := congrFun (hst.1 (4, 2) (by decide)) 0
  have u3 : τ1 (4, 3) 0 = σ (4, 3) 0 := congrFun (hst.1 (4, 3) (by decide)) 0
  have hR1 : mRes τ1 := fun a a0 a1 => by
    have q1 := hst.2.1 a a0 (by omega)
    have q2 := h.2.1 a a0 (by omega)
    omega
  have r1 := mn_rg1 h hEy hmn
  refine zr_if_ge X 8 dX7_findReached_4 (by decide) ⟨by omega, by omega⟩ (fun t_4 => ?_) (fun f_4 => ?_)
  · refine zr_iconst X dX7_findReached_8 ?_
    refine zr_istoren X dX7_findReached_9 (by decide) rfl ?_
    have loop_10 : ∀ (n_10 : Nat) (v : Int) (ω : Mem), ((0 ≤ v ∧ v ≤ σ (4, 2) 0) ∧ fdI τ1 ω v) → (σ (4, 2) 0 - v).toNat < n_10 → Wx pg l ev (rmm 3 0 0) s0 mi av bl mt cd D cs idsM ad (Rg idsM ad) s0.heap 4 (MQ bl (qV D cs idsM ad ((fun τ => fdM σ τ))) av s0 0 0 (Rg idsM ad)) 0 0 ω 10 [some (.ref (ad (4, 0))), some (jI v), none, none] [] := by
      intro n_10
      induction n_10 with
      | zero => exact fun v ω hinv hn => absurd hn (Nat.not_lt_zero _)
      | succ n_10 ih_10 =>
        intro v ω hI_10 hn_10
        have hv0 := hI_10.1
        have hfω := hI_10.2.1
        have hNω := hfω.net hN1
        have hRω := hfω.res hR1
        have o2 : ω (4, 2) 0 = σ (4, 2) 0 := (congrFun (hfω (4, 2) (by decide)) 0).trans u2
        refine zr_iloadn X dX7_findReached_10 rfl ?_
        refine zr_aloadn X dX7_findReached_11 rfl ?_
        refine zr_get X K (C := RX7) (T := TX7) (N := 20) (k := 1) mM_0 rfl rfl ti_7 (by decide) rfl tw_701 rfl dX7_findReached_12 ?_
        refine zr_icmp_ge X 84 dX7_findReached_15 (by decide) ⟨by omega, by omega⟩ ⟨by omega, by omega⟩ (fun t_15 => ?_) (fun f_15 => ?_)
        · refine zr_vret X hr dX7_findReached_84 ?_
          have hv : v = τ1 (4, 2) 0 := by omega
          rw [hv] at hI_10
          exact fdM_of hm.1 hst hI_10.2
        · refine zr_aloadn X dX7_findReached_18 rfl ?_
          refine zr_iloadn X dX7_findReached_19 rfl ?_
          refine zr_iloadn X dX7_findReached_20 rfl ?_
          refine zr_callVI X K (q := (RX7, TX7, 20)) (st := []) (c_X7_reach l D cs ad hap (σ := ω) hNω hRω (u := v) (t := v) ⟨hv0.1, by omega⟩ ⟨hv0.1, by omega⟩) ⟨tw_858, tw_860, tp_44, tw_8, tw_861⟩ dc_X7_reach mM_0 rfl rfl rfl rfl rfl (Nat.le_of_ble_eq_true rfl) (by decide) dX7_findReached_21 ?_
          intro z υ hp
          obtain ⟨hrh, hz01, hz⟩ := hp
          have hNυ := hrh.1.net hNω
          have v2 : υ (4, 2) 0 = σ (4, 2) 0 := (congrFun (hrh.1 (4, 2) (by decide) (by decide)) 0).trans o2
          have hz1 : z = 1 := hz.mpr (by obtain ⟨-, ⟨rk, q, hT, -⟩, -⟩ := hrh; exact hT.root)
          refine zr_istoren X dX7_findReached_24 (by decide) rfl ?_
          refine zr_aloadn X dX7_findReached_25 rfl ?_
          refine zr_get X K (C := RX7) (T := TX7) (N := 20) (k := 19) mM_0 rfl rfl ti_7 (by decide) rfl tw_719 rfl dX7_findReached_26 ?_
          refine zr_iloadn X dX7_findReached_29 rfl ?_
          refine zr_iconst X dX7_findReached_30 ?_
          refine zr_iast X K (n := 24) mM_20 (fun _ => rfl) rfl (by decide) (by omega) dX7_findReached_31 ?_
          generalize hm_σ1 : mset υ (4, 20) v 0 = σ1
          refine zr_iconst X dX7_findReached_32 ?_
          refine zr_istoren X dX7_findReached_33 (by decide) rfl ?_
          have loop_34 : ∀ (n_34 : Nat) (k : Int) (ψ : Mem), ((0 ≤ k ∧ k ≤ σ (4, 2) 0) ∧ frI υ ψ v k) → (σ (4, 2) 0 - k).toNat < n_34 → Wx pg l ev (rmm 3 0 0) s0 mi av bl mt cd D cs idsM ad (Rg idsM ad) s0.heap 4 (MQ bl (qV D cs idsM ad ((fun τ => fdM σ τ))) av s0 0 0 (Rg idsM ad)) 0 0 ψ 34 [some (.ref (ad (4, 0))), some (jI v), some (jI z), some (jI k)] [] := by
            intro n_34
            induction n_34 with
            | zero => exact fun k ψ hinv hn => absurd hn (Nat.not_lt_zero _)
            | succ n_34 ih_34 =>
              intro k ψ hI_34 hn_34
              have hk0 := hI_34.1
              have p2 : ψ (4, 2) 0 = σ (4, 2) 0 := (congrFun (hI_34.2.1 (4, 2) (by decide)) 0).trans v2
              have p18 : ψ (4, 18) = υ (4, 18) := hI_34.2.1 _ (by decide)
              have hmk := hI_34.2.2.2.1
              have hmk0 := hmk.1
              have pk := congrFun p18 k
              refine zr_iloadn X dX7_findReached_34 rfl ?_
              refine zr_aloadn X dX7_findReached_35 rfl ?_
              refine zr_get X K (C := RX7) (T := TX7) (N := 20) (k := 1) mM_0 rfl rfl ti_7 (by decide) rfl tw_701 rfl dX7_findReached_36 ?_
              refine zr_icmp_ge X 78 dX7_findReached_39 (by decide) ⟨by omega, by omega⟩ ⟨by omega, by omega⟩ (fun t_39 => ?_) (fun f_39 => ?_)
              · refine zr_iinc X dX7_findReached_78 rfl (by decide) rfl ?_
                refine zr_goto X 10 dX7_findReached_81 (by decide) ?_
                refine Wx.weak (lo' := [some (.ref (ad (4, 0))), some (jI (v + 1)), none, none]) ⟨rfl, rfl, trivial⟩ ?_
                exact ih_10 _ _ ⟨⟨by omega, by omega⟩, fdI_s hI_10.2 hrh.1 ⟨_, hI_34.2⟩ (frI_end hNυ ⟨hv0.1, by omega⟩ hrh hI_34.2 (by omega))⟩ (by omega)
              · refine zr_iloadn X dX7_findReached_42 rfl ?_
                refine zr_if_eq X 78 dX7_findReached_43 (by decide) (by rcases hz01 with q | q <;> exact ⟨by omega, by omega⟩) (fun t_43 => ?_) (fun f_43 => ?_)
                · exfalso
                  omega
                · have hcrg : rg (ψ (4, 18) k) := by
                    rw [p18]
                    exact rh_rg hNυ hrh ⟨hk0.1, by omega⟩
                  refine zr_aloadn X dX7_findReached_46 rfl ?_
                  refine zr_get X K (C := RX7) (T := TX7) (N := 20) (k := 19) mM_0 rfl rfl ti_7 (by decide) rfl tw_719 rfl dX7_findReached_47 ?_
                  refine zr_iloadn X dX7_findReached_50 rfl ?_
                  refine zr_dup2 X dX7_findReached_51 rfl rfl ?_
                  refine zr_iald X K (n := 24) mM_20 rfl (by decide) (by omega) dX7_findReached_52 ?_
                  refine zr_aloadn X dX7_findReached_53 rfl ?_
                  refine zr_get X K (C := RX7) (T := TX7) (N := 20) (k := 17) mM_0 rfl rfl ti_7 (by decide) rfl tw_717 rfl dX7_findReached_54 ?_
                  refine zr_iloadn X dX7_findReached_57 rfl ?_
                  refine zr_iald X K (n := 24) mM_18 rfl (by decide) (by omega) dX7_findReached_58 ?_
                  refine zr_iconst X dX7_findReached_59 ?_
                  refine zr_icmp_eq X 69 dX7_findReached_60 (by decide) hcrg ⟨by decide, by decide⟩ (fun t_60 => ?_) (fun f_60 => ?_)
                  · refine zr_iconst X dX7_findReached_69 ?_
                    refine zr_ior X dX7_findReached_70 (zb_or hmk0 (by first | exact (pI_rg (by omega)).1 | decide)) ?_
                    refine zr_iast X K (n := 24) mM_20 (fun _ => rfl) rfl (by decide) (by omega) dX7_findReached_71 ?_
                    generalize hm_σ2 : mset ψ (4, 20) v (oI (ψ (4, 20) v) (0)) = σ2
                    refine zr_iinc X dX7_findReached_72 rfl (by decide) rfl ?_
                    refine zr_goto X 34 dX7_findReached_75 (by decide) ?_
                    refine Wx.weak (lo' := [some (.ref (ad (4, 0))), some (jI v), some (jI z), some (jI (k + 1))]) ⟨rfl, rfl, rfl, rfl, trivial⟩ ?_
                    have hxk : ((0 : Int) = pI k ∧ mkd υ k = true) ∨ ((0 : Int) = 0 ∧ ¬ mkd υ k = true) := by
                      exact Or.inr ⟨rfl, mkd_not.mpr (by omega)⟩
                    exact ih_34 _ _ ⟨⟨by omega, by omega⟩, frI_s hI_34.2 ⟨hk0.1, by omega⟩ hxk hm_σ2⟩ (by omega)
                  · refine zr_iconst X dX7_findReached_63 ?_
                    refine zr_iloadn X dX7_findReached_64 rfl ?_
                    refine zr_ishl X dX7_findReached_65 (zb_shl (by omega) (by omega)) ?_
                    refine zr_goto X 70 dX7_findReached_66 (by decide) ?_
                    refine zr_ior X dX7_findReached_70 (zb_or hmk0 (by first | exact (pI_rg (by omega)).1 | decide)) ?_
                    refine zr_iast X K (n := 24) mM_20 (fun _ => rfl) rfl (by decide) (by omega) dX7_findReached_71 ?_
                    generalize hm_σ3 : mset ψ (4, 20) v (oI (ψ (4, 20) v) (pI k)) = σ3
                    refine zr_iinc X dX7_findReached_72 rfl (by decide) rfl ?_
                    refine zr_goto X 34 dX7_findReached_75 (by decide) ?_
                    refine Wx.weak (lo' := [some (.ref (ad (4, 0))), some (jI v), some (jI z), some (jI (k + 1))]) ⟨rfl, rfl, rfl, rfl, trivial⟩ ?_
                    have hxk : (pI k = pI k ∧ mkd υ k = true) ∨ (pI k = 0 ∧ ¬ mkd υ k = true) := by
                      exact Or.inl ⟨rfl, mkd_iff.mpr (by omega)⟩
                    exact ih_34 _ _ ⟨⟨by omega, by omega⟩, frI_s hI_34.2 ⟨hk0.1, by omega⟩ hxk hm_σ3⟩ (by omega)
          refine Wx.weak (lo' := [some (.ref (ad (4, 0))), some (jI v), some (jI z), some (jI 0)]) ⟨rfl, rfl, rfl, rfl, trivial⟩ ?_
          exact loop_34 _ _ _ ⟨⟨by omega, by omega⟩, frI_0 hm_σ1⟩ (Nat.lt_succ_self _)
    refine Wx.weak (lo' := [some (.ref (ad (4, 0))), some (jI 0), none, none]) ⟨rfl, rfl, trivial⟩ ?_
    exact loop_10 _ _ _ ⟨⟨by omega, by omega⟩, fun _ _ => rfl, fun u a b => by omega⟩ (Nat.lt_succ_self _)
  · exfalso
    omega
