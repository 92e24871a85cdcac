/-! THE REFERENCE: scale -/
theorem fin_w {i : Int} {d : FP.Core.Datum} (h : W8 i d) : ∃ s c q, d = .fin s c q := by
  cases d with
  | nan => exact h.elim
  | inf => exact h.elim
  | fin s c q => exact ⟨s, c, q, rfl⟩
theorem pos_fin {a : UInt64} {s : Bool} {c : Nat} {q : Int} (h : FP.Core.val64 a = .fin s c q) (ha : a.toNat < 2 ^ 63) : s = false := by
  have := FP.Core.sign_bits (Or.inl ⟨c, q, h⟩)
  cases s with
  | false => rfl
  | true => have := this.mp rfl; omega
theorem dmul_pos {i j : Int} {a b : UInt64} (ha : D8 i a) (hb : D8 j b) (pa : a.toNat < 2 ^ 63) (pb : b.toNat < 2 ^ 63) : (FP.dmul a b).toNat < 2 ^ 63 := by
  obtain ⟨s, c, q, ea⟩ := fin_w ha
  obtain ⟨t, d, r, eb⟩ := fin_w hb
  have es := pos_fin ea pa
  have et := pos_fin eb pb
  subst es; subst et
  have e : FP.Core.val64 (FP.dmul a b) = FP.Core.roundRatio FP.Core.b64 false (c * d) 1 (q + r) := by
    rw [show FP.Core.val64 (FP.dmul a b) = _ from FP.Core.val64_dmul a b, ea, eb]
    rfl
  have hs := FP.Core.sign_bits (a := FP.dmul a b) (s := false) (by
    rw [e]
    rcases FP.Core.roundRatio_cases FP.Core.b64 false (c * d) 1 (q + r) with ⟨x, y, h⟩ | h
    · exact Or.inl ⟨x, y, h⟩
    · exact Or.inr h)
  have : ¬ 2 ^ 63 ≤ (FP.dmul a b).toNat := fun g => Bool.noConfusion (hs.mpr g)
  omega
theorem i2d_pos {x : Int} (h : 0 ≤ x ∧ x < 2147483648) : (FP.i2d (iI x)).toNat < 2 ^ 63 := by
  have e : FP.Core.val64 (FP.i2d (iI x)) = FP.Core.round FP.Core.b64 (FP.Core.ofInt x) := by
    rw [show FP.Core.val64 (FP.i2d (iI x)) = _ from FP.Core.val64_i2d (iI x), iI_toInt ⟨by omega, h.2⟩]
  have e2 : FP.Core.ofInt x = .fin false x.natAbs 0 := by
    unfold FP.Core.ofInt
    rw [decide_eq_false (by omega)]
  rw [e2] at e
  have hs := FP.Core.sign_bits (a := FP.i2d (iI x)) (s := false) (by
    rw [e]
    rcases FP.Core.roundRatio_cases FP.Core.b64 false x.natAbs 1 0 with ⟨u, y, h⟩ | h
    · exact Or.inl ⟨u, y, h⟩
    · exact Or.inr h)
  have : ¬ 2 ^ 63 ≤ (FP.i2d (iI x)).toNat := fun g => Bool.noConfusion (hs.mpr g)
  omega
def rrS : Room := { frames := 7, cells := 0, slots := 0, locals := 1500 }
/-- a contract with a room of its own -/
def CIR (rm : Room) (l : Launch) (D : va_G) (cs : Nat → ClassId) (ids : List Ix) (ad : Ix → Nat) (y : MethodName) (cc : ByteArray) (nL : Nat) (ret : FieldType) (as : List Value) (σ : Mem) (Post : Int → Mem → Prop) : Prop :=
  Met l y (wsy y cc nL (some ret)) rm (va_Pc as (fun U => Wo D cs ids ad σ U)) (qI D cs ids ad Post) 0 0 (Rg ids ad)
theorem CIR.of {rm : Room} {l : Launch} {D : va_G} {cs : Nat → ClassId} {ids : List Ix} {ad : Ix → Nat} {y : MethodName} {cc : ByteArray} {nL : Nat} {ret : FieldType} {as : List Value} {σ : Mem} {Post : Int → Mem → Prop} (own : String) (hap : Apart ids ad) (hnd : ids.Nodup) (hy : plainName y.cls = true) (ho : y.cls = own) (hlen : (lg_sl as).length ≤ nL)
    (body : ∀ (p : Program) (e : Env) (s : State) (m : MethodId) (args : Array Value) (below : List Frame) (meth : Method) (c : Code), Cx p s m args meth c cc nL own → Kx D cs ids ad (Rg ids ad) s → meth.sig.returnType = some ret →
      Wx p l e rm s m args below meth c D cs ids ad (Rg ids ad) s.heap nL (MQ below (qI D cs ids ad Post) args s 0 0 (Rg ids ad)) 0 0 σ 0 (entryLo as nL) []) : CIR rm l D cs ids ad y cc nL ret as σ Post := by
  refine Met.ofW (cc := cc) (maxL := nL) (ret := some ret) hy rfl ?_
  intro p e s m args below meth c s₁ B hml hv
  obtain ⟨rfl, hP, hK, hN, hX⟩ := hv
  have hts := atoms_spec (ws := wsy y cc nL (some ret)) B.pre
  have hown : s.vm.findClass own = some m.cls := ho ▸ findClass_of_methodNamed B.named
  rw [lg_entry_eq]
  exact body p e s m as.toArray below meth c ⟨B.exec, B.bytes, hml, hown, fun w hw => hts w (List.mem_cons_of_mem _ hw), B.notSynchronized⟩ ⟨hK, hap, fun i hi => ⟨i, hi, rfl⟩, hnd, hN, hX⟩ B.returns s.heap [] _ hP va_S.rf (lo_entry as hlen)
def mscC (σ : Mem) (v k i : Int) : Int → Int := fun j => if (0 ≤ j ∧ j < i) ∧ σ (4, 4) j = v then scS (σ (4, 6) j) k else σ (4, 6) j
def mchF (σ : Mem) (v k a : Int) : Int := if σ (4, 4) a = v ∧ scS (σ (4, 6) a) k ≠ σ (4, 6) a then 1 else 0
def mscI (σ υ : Mem) (v k i x : Int) : Prop := frL [(4, 1), (4, 6)] σ υ ∧ υ (4, 1) 0 = 0 ∧ υ (4, 6) = mscC σ v k i ∧ x = sm (mchF σ v k) i.toNat
theorem msc_at {σ υ : Mem} {v k i x : Int} (h : mscI σ υ v k i x) : υ (4, 6) i = σ (4, 6) i := by
  rw [h.2.2.1]
  exact if_neg (fun q => by omega)
theorem msc_no {σ υ : Mem} {v k i x : Int} (h : mscI σ υ v k i x) (hi : 0 ≤ i) (q : ¬ σ (4, 4) i = v) : mscI σ υ v k (i + 1) x := by
  obtain ⟨h1, h2, h3, h4⟩ := h
  refine ⟨h1, h2, ?_, ?_⟩
  · rw [h3]
    funext j
    unfold mscC
    by_cases e : j = i
    · subst e
      rw [if_neg (fun g => by omega), if_neg (fun z => q z.2)]
    · by_cases g : (0 ≤ j ∧ j < i) ∧ σ (4, 4) j = v
      · rw [if_pos g, if_pos ⟨⟨g.1.1, by omega⟩, g.2⟩]
      · rw [if_neg g, if_neg (fun z => g ⟨⟨z.1.1, by omega⟩, z.2⟩)]
  · rw [sm_succ hi, ← h4]
    unfold mchF
    rw [if_neg (fun g => q g.1)]
    omega
theorem msc_yes {σ υ τ : Mem} {v k i x y : Int} (h : mscI σ υ v k i x) (hi : 0 ≤ i) (q1 : σ (4, 4) i = v) (hy : y = x + if scS (σ (4, 6) i) k = σ (4, 6) i then 0 else 1) (e : mset υ (4, 6) i (scS (σ (4, 6) i) k) = τ) : mscI σ τ v k (i + 1) y := by
  obtain ⟨h1, h2, h3, h4⟩ := h
  refine ⟨h1.tr (frL_set e (by decide)), by rw [← e, mset_id (by decide)]; exact h2, ?_, ?_⟩
  · funext j
    rw [← e, mset_at, h3]
    unfold mscC
    by_cases g : j = i
    · rw [if_pos g, g, if_pos ⟨⟨hi, by omega⟩, q1⟩]
    · rw [if_neg g]
      by_cases z : (0 ≤ j ∧ j < i) ∧ σ (4, 4) j = v
      · rw [if_pos z, if_pos ⟨⟨z.1.1, by omega⟩, z.2⟩]
      · rw [if_neg z, if_neg (fun w => z ⟨⟨w.1.1, by omega⟩, w.2⟩)]
  · rw [sm_succ hi, ← h4, hy]
    unfold mchF
    by_cases g : scS (σ (4, 6) i) k = σ (4, 6) i
    · rw [if_pos g, if_neg (fun z => z.2 g)]
    · rw [if_neg g, if_pos ⟨q1, g⟩]

set_option maxHeartbeats 4000000 in
set_option maxRecDepth 100000 in
theorem c_X7_scale (l : Launch) (D : va_G) (cs : Nat → ClassId) (ad : Ix → Nat) (hap : Apart idsM ad) {σ : Mem} (h : mOk σ) {v k : Int} {fr : UInt64} (hv : rg v) (hfr : D8 k fr) (hpos : 0 ≤ k → fr.toNat < 2 ^ 63) : CIR rrS l D cs idsM ad yX7_scale cX7_scale 7 .int [(.ref (ad (4, 0))), (jI v), (.double (fr))] σ (fun z τ => (¬ (0 ≤ v ∧ v < σ (4, 2) 0) ∧ fq σ τ ∧ τ (4, 1) 0 = 1) ∨ ((0 ≤ v ∧ v < σ (4, 2) 0) ∧ ((¬ (0 ≤ k ∧ k ≤ 8000) ∧ fq σ τ ∧ τ (4, 1) 0 = 2) ∨ ((0 ≤ k ∧ k ≤ 8000) ∧ mscI σ τ v k (σ (4, 3) 0) z)))) := by
  refine CIR.of RX7 hap idsM_nd (by decide) rfl (Nat.le_of_ble_eq_true rfl) ?_
  intro pg ev s0 mi av bl mt cd X K hr
  have hN0 := h.1
  have hn0 := hN0.1
  have hm0 := hN0.2.1
  have hlv := h.2.2.2.1
  refine zr_aloadn X dX7_scale_0 rfl ?_
  refine zr_iconst X dX7_scale_1 ?_
  refine zr_put X K (q := (4, 1)) (C := RX7) (T := TX7) (ty0 := tyX7) (N := 20) (k := 0) mM_0 (fun _ => rfl) (by simp [mset]) rfl rfl ti_7 tyX7_ok nmX7 (by decide) rfl tw_700 rfl rfl rfl (Nat.le_of_ble_eq_true rfl) dX7_scale_2 ?_
  generalize hm_σ1 : mset σ (4, 1) 0 0 = σ1
  have hq1 : fq σ σ1 := fq_set hm_σ1
  have t1 := congrArg (fun μ : Mem => μ (4, 1) 0) hm_σ1
  have h1 := hq1.ok h
  have hN := h1.1
  have hn := hN.1
  have hm := hN.2.1
  have hE := h1.2.2.1
  have hEs := h.2.2.1
  unfold mEn mEy at hE
  have e7 : σ1 (4, 7) 0 = σ (4, 7) 0 := congrFun (hq1 (4, 7) (by decide)) 0
  have e8 : σ1 (4, 8) 0 = σ (4, 8) 0 := congrFun (hq1 (4, 8) (by decide)) 0
  have e2 : σ1 (4, 2) 0 = σ (4, 2) 0 := congrFun (hq1 (4, 2) (by decide)) 0
  have e3 : σ1 (4, 3) 0 = σ (4, 3) 0 := congrFun (hq1 (4, 3) (by decide)) 0
  have e6 : σ1 (4, 6) = σ (4, 6) := hq1 (4, 6) (by decide)
  have e4 : σ1 (4, 4) = σ (4, 4) := hq1 (4, 4) (by decide)
  have e5 : σ1 (4, 5) = σ (4, 5) := hq1 (4, 5) (by decide)
  simp only [mset_same] at t1
  have e4 : σ1 (4, 4) = σ (4, 4) := hq1 (4, 4) (by decide)
  have e6 : σ1 (4, 6) = σ (4, 6) := hq1 (4, 6) (by decide)
  have e3 : σ1 (4, 3) 0 = σ (4, 3) 0 := congrFun (hq1 (4, 3) (by decide)) 0
  have e2 : σ1 (4, 2) 0 = σ (4, 2) 0 := congrFun (hq1 (4, 2) (by decide)) 0
  have hq1f : frL [((4, 1) : Ix), (4, 6)] σ σ1 := frL_set hm_σ1 (by decide)
  refine zr_aloadn X dX7_scale_5 rfl ?_
  refine zr_iloadn X dX7_scale_6 rfl ?_
  refine zr_callVI X K (q := (RX7, TX7, 20)) (st := []) (c_X7_isNode l D cs ad hap (σ := σ1) hN (v := v) hv) ⟨tw_777, tw_779, tp_39, tw_8, tw_780⟩ dc_X7_isNode mM_0 rfl rfl rfl rfl rfl (Nat.le_of_ble_eq_true rfl) (by decide) dX7_scale_7 ?_
  intro y τ_ hp_
  obtain ⟨hτ_, hy01, hy⟩ := hp_
  subst τ_
  refine zr_if_ne X 19 dX7_scale_10 (by decide) (by rcases hy01 with q | q <;> exact ⟨by omega, by omega⟩) (fun t_10 => ?_) (fun f_10 => ?_)
  · refine zr_dloadn X dX7_scale_19 rfl ?_
    refine zr_dconst0 X dX7_scale_20 ?_
    refine zr_dcmp X dX7_scale_21 (d8_cm hfr d8_zero) ?_
    refine zr_if_lt X 33 dX7_scale_22 (by decide) cm3_rg (fun t_22 => ?_) (fun f_22 => ?_)
    · have hx : ¬ (0 ≤ k ∧ k ≤ 8000) := fun g => by have := cm3_lt.mp t_22; omega
      refine zr_aloadn X dX7_scale_33 rfl ?_
      refine zr_iconst X dX7_scale_34 ?_
      refine zr_callVI X K (q := (RX7, TX7, 20)) (st := []) (c_X7_fail l D cs ad hap (σ := σ1) (k := 2)) ⟨tw_769, tw_771, tp_38, tw_8, tw_772⟩ dc_X7_fail mM_0 rfl rfl rfl rfl rfl (Nat.le_of_ble_eq_true rfl) (by decide) dX7_scale_35 ?_
      intro z τ hp
      obtain ⟨hτ, hz⟩ := hp
      have htt : τ (4, 1) 0 = 2 := by rw [hτ, mset_same]
      have hqf := hq1.tr (fq_set hτ.symm)
      refine zr_iret X hr dX7_scale_38 ?_
      first | exact Or.inl ⟨by omega, hqf, htt⟩ | exact Or.inr ⟨by omega, Or.inl ⟨by omega, hqf, htt⟩⟩
    · refine zr_dloadn X dX7_scale_25 rfl ?_
      refine zr_ldc2d X dX7_scale_26 tw_797 ?_
      refine zr_dcmp X dX7_scale_29 (d8_cm hfr d8_1000) ?_
      refine zr_if_le X 39 dX7_scale_30 (by decide) cm3_rg (fun t_30 => ?_) (fun f_30 => ?_)
      · have hx : 0 ≤ k ∧ k ≤ 8000 := ⟨Int.not_lt.mp fun g => f_22 (cm3_lt.mpr g), Int.not_lt.mp fun g => absurd (cm3_gt.mpr g) (by omega)⟩
        have hfp := hpos hx.1
        refine zr_iconst X dX7_scale_39 ?_
        refine zr_istore X dX7_scale_40 (by decide) rfl ?_
        refine zr_iconst X dX7_scale_42 ?_
        refine zr_istore X dX7_scale_43 (by decide) rfl ?_
        have loop_45 : ∀ (n_45 : Nat) (x : Int) (i : Int) (υ : Mem), ((0 ≤ i ∧ i ≤ σ (4, 3) 0) ∧ mscI σ υ v k i x) → (σ (4, 3) 0 - i).toNat < n_45 → Wx pg l ev rrS s0 mi av bl mt cd D cs idsM ad (Rg idsM ad) s0.heap 7 (MQ bl (qI D cs idsM ad ((fun z τ => (¬ (0 ≤ v ∧ v < σ (4, 2) 0) ∧ fq σ τ ∧ τ (4, 1) 0 = 1) ∨ ((0 ≤ v ∧ v < σ (4, 2) 0) ∧ ((¬ (0 ≤ k ∧ k ≤ 8000) ∧ fq σ τ ∧ τ (4, 1) 0 = 2) ∨ ((0 ≤ k ∧ k ≤ 8000) ∧ mscI σ τ v k (σ (4, 3) 0) z)))))) av s0 0 0 (Rg idsM ad)) 0 0 υ 45 [some (.ref (ad (4, 0))), some (jI v), some (.double (fr)), none, some (jI x), some (jI i), none] [] := by
          intro n_45
          induction n_45 with
          | zero => exact fun x i υ hinv hn => absurd hn (Nat.not_lt_zero _)
          | succ n_45 ih_45 =>
            intro x i υ hI_45 hn_45
            have hi0 := hI_45.1
            have hp := hI_45.2
            have u3 : υ (4, 3) 0 = σ (4, 3) 0 := congrFun (hp.1 (4, 3) (by decide)) 0
            have u4 : υ (4, 4) i = σ (4, 4) i := congrFun (hp.1 (4, 4) (by decide)) i
            have u6 := msc_at hp
            refine zr_iload X dX7_scale_45 rfl ?_
            refine zr_aloadn X dX7_scale_47 rfl ?_
            refine zr_get X K (C := RX7) (T := TX7) (N := 20) (k := 2) mM_0 rfl rfl ti_7 (by decide) rfl tw_702 rfl dX7_scale_48 ?_
            refine zr_icmp_ge X 127 dX7_scale_51 (by decide) ⟨by omega, by omega⟩ ⟨by omega, by omega⟩ (fun t_51 => ?_) (fun f_51 => ?_)
            · refine zr_iload X dX7_scale_127 rfl ?_
              refine zr_iret X hr dX7_scale_129 ?_
              have hi : i = σ (4, 3) 0 := by omega
              rw [hi] at hp
              exact Or.inr ⟨by omega, Or.inr ⟨hx, hp⟩⟩
            · have hti := hN0.2.2 i hi0.1 (by omega)
              have hti1 := hti.1
              refine zr_aloadn X dX7_scale_54 rfl ?_
              refine zr_get X K (C := RX7) (T := TX7) (N := 20) (k := 3) mM_0 rfl rfl ti_7 (by decide) rfl tw_703 rfl dX7_scale_55 ?_
              refine zr_iload X dX7_scale_58 rfl ?_
              refine zr_iald X K (n := 80) mM_4 rfl (by decide) (by omega) dX7_scale_60 ?_
              refine zr_iloadn X dX7_scale_61 rfl ?_
              refine zr_icmp_eq X 68 dX7_scale_62 (by decide) ⟨by omega, by omega⟩ ⟨by omega, by omega⟩ (fun t_62 => ?_) (fun f_62 => ?_)
              · refine zr_aloadn X dX7_scale_68 rfl ?_
                refine zr_get X K (C := RX7) (T := TX7) (N := 20) (k := 5) mM_0 rfl rfl ti_7 (by decide) rfl tw_705 rfl dX7_scale_69 ?_
                refine zr_iload X dX7_scale_72 rfl ?_
                refine zr_iald X K (n := 80) mM_6 rfl (by decide) (by omega) dX7_scale_74 ?_
                rw [u6]
                have hci := h.2.1 i hi0.1 (by omega)
                have hck := ck_rg hci hx
                have hsr := sc_rg hci hx
                have hP : D8 (σ (4, 6) i * k) (FP.dmul (FP.i2d (iI (σ (4, 6) i))) (fr)) := d8_mul (d1_i ⟨by omega, by omega⟩) hfr (by omega)
                have hPp := dmul_pos (d8_of (d1_i (x := σ (4, 6) i) ⟨by omega, by omega⟩)) hfr (i2d_pos ⟨hci.1, by omega⟩) hfp
                refine zr_i2d X dX7_scale_75 ?_
                refine zr_dloadn X dX7_scale_76 rfl ?_
                refine zr_dmul X dX7_scale_77 (d8_n hP) ?_
                refine zr_rint X K tw_798 hPp hck hP (Nat.le_of_ble_eq_true rfl) ⟨Nat.le_of_ble_eq_true rfl, Nat.le_of_ble_eq_true rfl, Nat.le_of_ble_eq_true rfl, Nat.le_of_ble_eq_true rfl⟩ dX7_scale_78 (fun z_ hz_ => ?_)
                refine zr_ldc2d X dX7_scale_81 tw_819 ?_
                refine zr_minD X tw_820 (d1_n hz_) (d1_n d1_6) (Nat.le_of_ble_eq_true rfl) ⟨Nat.le_of_ble_eq_true rfl, Nat.le_of_ble_eq_true rfl⟩ dX7_scale_84 ?_
                have hpm : D1 (scS (σ (4, 6) i) k) (Native.java_lang_Math.nans.pick64 false (z_) (4696837146684686336)) := pick_min hz_ d1_6
                have hmade := d8_int (d8_of hpm) (by omega) (by omega)
                rw [show 8 * scS (σ (4, 6) i) k / 8 = scS (σ (4, 6) i) k by omega] at hmade
                refine zr_d2i X dX7_scale_87 hmade ?_
                refine zr_istore X dX7_scale_88 (by decide) rfl ?_
                refine zr_iload X dX7_scale_90 rfl ?_
                refine zr_iload X dX7_scale_92 rfl ?_
                refine zr_aloadn X dX7_scale_94 rfl ?_
                refine zr_get X K (C := RX7) (T := TX7) (N := 20) (k := 5) mM_0 rfl rfl ti_7 (by decide) rfl tw_705 rfl dX7_scale_95 ?_
                refine zr_iload X dX7_scale_98 rfl ?_
                refine zr_iald X K (n := 80) mM_6 rfl (by decide) (by omega) dX7_scale_100 ?_
                rw [u6]
                refine zr_icmp_ne X 108 dX7_scale_101 (by decide) ⟨by omega, by omega⟩ ⟨by omega, by omega⟩ (fun t_101 => ?_) (fun f_101 => ?_)
                · refine zr_iconst X dX7_scale_108 ?_
                  refine zr_iadd X dX7_scale_109 ?_
                  refine zr_istore X dX7_scale_110 (by decide) rfl ?_
                  refine zr_aloadn X dX7_scale_112 rfl ?_
                  refine zr_get X K (C := RX7) (T := TX7) (N := 20) (k := 5) mM_0 rfl rfl ti_7 (by decide) rfl tw_705 rfl dX7_scale_113 ?_
                  refine zr_iload X dX7_scale_116 rfl ?_
                  refine zr_iload X dX7_scale_118 rfl ?_
                  refine zr_iast X K (n := 80) mM_6 (fun _ => rfl) rfl (by decide) (by omega) dX7_scale_120 ?_
                  generalize hm_σ2 : mset υ (4, 6) i (scS (σ (4, 6) i) k) = σ2
                  refine zr_iinc X dX7_scale_121 rfl (by decide) rfl ?_
                  refine zr_goto X 45 dX7_scale_124 (by decide) ?_
                  refine Wx.weak (lo' := [some (.ref (ad (4, 0))), some (jI v), some (.double (fr)), none, some (jI (x + 1)), some (jI (i + 1)), none]) ⟨rfl, rfl, rfl, rfl, rfl, trivial⟩ ?_
                  exact ih_45 _ _ _ ⟨⟨by omega, by omega⟩, msc_yes hp hi0.1 (by omega) (by first | (rw [if_pos (by omega)]) | (rw [if_neg (by omega)])) hm_σ2⟩ (by omega)
                · refine zr_iconst X dX7_scale_104 ?_
                  refine zr_goto X 109 dX7_scale_105 (by decide) ?_
                  refine zr_iadd X dX7_scale_109 ?_
                  refine zr_istore X dX7_scale_110 (by decide) rfl ?_
                  refine zr_aloadn X dX7_scale_112 rfl ?_
                  refine zr_get X K (C := RX7) (T := TX7) (N := 20) (k := 5) mM_0 rfl rfl ti_7 (by decide) rfl tw_705 rfl dX7_scale_113 ?_
                  refine zr_iload X dX7_scale_116 rfl ?_
                  refine zr_iload X dX7_scale_118 rfl ?_
                  refine zr_iast X K (n := 80) mM_6 (fun _ => rfl) rfl (by decide) (by omega) dX7_scale_120 ?_
                  generalize hm_σ3 : mset υ (4, 6) i (scS (σ (4, 6) i) k) = σ3
                  refine zr_iinc X dX7_scale_121 rfl (by decide) rfl ?_
                  refine zr_goto X 45 dX7_scale_124 (by decide) ?_
                  refine Wx.weak (lo' := [some (.ref (ad (4, 0))), some (jI v), some (.double (fr)), none, some (jI (x + 0)), some (jI (i + 1)), none]) ⟨rfl, rfl, rfl, rfl, rfl, trivial⟩ ?_
                  exact ih_45 _ _ _ ⟨⟨by omega, by omega⟩, msc_yes hp hi0.1 (by omega) (by first | (rw [if_pos (by omega)]) | (rw [if_neg (by omega)])) hm_σ3⟩ (by omega)
              · refine zr_goto X 121 dX7_scale_65 (by decide) ?_
                refine zr_iinc X dX7_scale_121 rfl (by decide) rfl ?_
                refine zr_goto X 45 dX7_scale_124 (by decide) ?_
                refine Wx.weak (lo' := [some (.ref (ad (4, 0))), some (jI v), some (.double (fr)), none, some (jI x), some (jI (i + 1)), none]) ⟨rfl, rfl, rfl, rfl, rfl, trivial⟩ ?_
                exact ih_45 _ _ _ ⟨⟨by omega, by omega⟩, msc_no hp hi0.1 (by omega)⟩ (by omega)
        refine Wx.weak (lo' := [some (.ref (ad (4, 0))), some (jI v), some (.double (fr)), none, some (jI 0), some (jI 0), none]) ⟨rfl, rfl, rfl, rfl, rfl, trivial⟩ ?_
        exact loop_45 _ _ _ _ ⟨⟨by omega, by omega⟩, ⟨hq1f, t1.symm, e6.trans (funext fun j => (if_neg (fun q => by omega)).symm), rfl⟩⟩ (Nat.lt_succ_self _)
      · have hx : ¬ (0 ≤ k ∧ k ≤ 8000) := fun g => f_30 (by have := (cm3_gt (i := k) (j := 8000)); omega)
        refine zr_aloadn X dX7_scale_33 rfl ?_
        refine zr_iconst X dX7_scale_34 ?_
        refine zr_callVI X K (q := (RX7, TX7, 20)) (st := []) (c_X7_fail l D cs ad hap (σ := σ1) (k := 2)) ⟨tw_769, tw_771, tp_38, tw_8, tw_772⟩ dc_X7_fail mM_0 rfl rfl rfl rfl rfl (Nat.le_of_ble_eq_true rfl) (by decide) dX7_scale_35 ?_
        intro z τ hp
        obtain ⟨hτ, hz⟩ := hp
        have htt : τ (4, 1) 0 = 2 := by rw [hτ, mset_same]
        have hqf := hq1.tr (fq_set hτ.symm)
        refine zr_iret X hr dX7_scale_38 ?_
        first | exact Or.inl ⟨by omega, hqf, htt⟩ | exact Or.inr ⟨by omega, Or.inl ⟨by omega, hqf, htt⟩⟩
  · refine zr_aloadn X dX7_scale_13 rfl ?_
    refine zr_iconst X dX7_scale_14 ?_
    refine zr_callVI X K (q := (RX7, TX7, 20)) (st := []) (c_X7_fail l D cs ad hap (σ := σ1) (k := 1)) ⟨tw_769, tw_771, tp_38, tw_8, tw_772⟩ dc_X7_fail mM_0 rfl rfl rfl rfl rfl (Nat.le_of_ble_eq_true rfl) (by decide) dX7_scale_15 ?_
    intro z τ hp
    obtain ⟨hτ, hz⟩ := hp
    have htt : τ (4, 1) 0 = 1 := by rw [hτ, mset_same]
    have hqf := hq1.tr (fq_set hτ.symm)
    refine zr_iret X hr dX7_scale_18 ?_
    first | exact Or.inl ⟨by omega, hqf, htt⟩ | exact Or.inr ⟨by omega, Or.inl ⟨by omega, hqf, htt⟩⟩
