/-! THE CLASS: digest -/
def dgS (c : Int → Int) : Int → Nat → Int
  | d, 0 => d
  | d, n + 1 => dgS c d n * 31 + c (n : Int)
theorem dgS_succ {c : Int → Int} {d i : Int} (hi : 0 ≤ i) : dgS c d (i + 1).toNat = dgS c d i.toNat * 31 + c i := by
  obtain ⟨n, rfl⟩ := nat_of hi
  rw [show ((n : Int) + 1).toNat = n + 1 by omega, Int.toNat_natCast]
  rfl
theorem dgS_cong {c c' : Int → Int} {d : Int} : ∀ {n : Nat}, (∀ j : Int, 0 ≤ j → j < n → c j = c' j) → dgS c d n = dgS c' d n
  | 0, _ => rfl
  | n + 1, h => by
    unfold dgS
    rw [dgS_cong (fun j j0 j1 => h j j0 (by omega)), h n (by omega) (by omega)]
/-- the digest: with ends, the maximum and both masks -/
def dg0 (n m k : Int) (c : Int → Int) (s t : Int) : Int := (dgS c (((37 * 31 + n) * 31 + m) * 31 + k) m.toNat * 31 + s) * 31 + t
def dgP (σ : Mem) (z : Int) : Prop := (endsNo σ 0 ∧ z = dg0 (σ (0, 0) 0) (σ (0, 1) 0) (σ (3, 0) 0) (σ (6, 2)) (σ (6, 8) 0) (σ (6, 9) 0)) ∨ (endsYes σ 0 ∧ ∃ F a b, mnS σ (σ (6, 2)) (σ (6, 8) 0) (σ (6, 9) 0) F ∧ smP σ a ∧ gtP σ b ∧ z = ((dg0 (σ (0, 0) 0) (σ (0, 1) 0) (σ (3, 0) 0) (σ (6, 2)) (σ (6, 8) 0) (σ (6, 9) 0) * 31 + F) * 31 + a) * 31 + b)
theorem mn_rg {σ : Mem} (hf : fnOk σ) {s t F : Int} (h : mnS σ (σ (6, 2)) s t F) : 0 ≤ F ∧ F ≤ 80000000 := by
  have hm := hf.net.2.1
  obtain ⟨⟨X, x1, x2, x3⟩, -⟩ := h
  rw [← x3]
  refine ⟨gcp_nn (fun j j0 j1 => (hf.2.1 j j0 (by omega)).1) X, sm_80 (by omega) fun j j0 j1 => ?_⟩
  have := hf.2.1 j j0 (by omega)
  show (if _ then _ else _) ≤ (1000000 : Int)
  split
  · exact this.2
  · decide
theorem keepQ.sm {σ τ : Mem} (k : keepQ σ τ) {z : Int} (h : smP τ z) : smP σ z := by
  have e1 : τ (0, 1) = σ (0, 1) := k.1 0 1 (by decide)
  have e2 : τ (0, 2) = σ (0, 2) := k.1 0 2 (by decide)
  have e3 : τ (0, 3) = σ (0, 3) := k.1 0 3 (by decide)
  unfold smP mcS at h ⊢
  rw [e1, e2, e3, k.2.1, k.2.2.1, k.2.2.2] at h
  exact h
theorem keepQ.gt {σ τ : Mem} (k : keepQ σ τ) {z : Int} (h : gtP τ z) : gtP σ z := by
  have e0 : τ (0, 0) = σ (0, 0) := k.1 0 0 (by decide)
  have e1 : τ (0, 1) = σ (0, 1) := k.1 0 1 (by decide)
  have e2 : τ (0, 2) = σ (0, 2) := k.1 0 2 (by decide)
  have e3 : τ (0, 3) = σ (0, 3) := k.1 0 3 (by decide)
  unfold gtP mcS at h ⊢
  rw [e0, e1, e2, e3, k.2.1, k.2.2.1, k.2.2.2] at h
  exact h
theorem keepQ.ey {σ τ : Mem} (k : keepQ σ τ) (h : endsYes σ 0) : endsYes τ 0 := by
  show (0 ≤ τ (6, 8) 0 ∧ τ (6, 8) 0 < τ (0, 0) 0) ∧ (0 ≤ τ (6, 9) 0 ∧ τ (6, 9) 0 < τ (0, 0) 0) ∧ τ (6, 8) 0 ≠ τ (6, 9) 0
  rw [k.2.2.1, k.2.2.2, k.1 0 0 (by decide)]
  exact h

set_option maxHeartbeats 4000000 in
set_option maxRecDepth 100000 in
theorem c_X6_digest (l : Launch) (D : va_G) (cs : Nat → ClassId) (ad : Ix → Nat) (hap : Apart idsF ad) {σ : Mem} (h : fnOk σ) : CL l D cs idsF ad yX6_digest cX6_digest 4 6 [(.ref (ad (3, 7)))] σ (fun z τ => fnOk τ ∧ keepQ σ τ ∧ dgP σ z) := by
  refine CL.of RX6 hap idsF_nd (by decide) rfl (Nat.le_of_ble_eq_true rfl) ?_
  intro pg ev s0 mi av bl mt cd X K hr
  have hN := h.net
  have hn := hN.1
  have hm := hN.2.1
  have hl := h.2.2.1.1
  have hg := ends_rg hN h.ends
  have hg1 : (-1 ≤ σ (6, 8) 0 ∧ σ (6, 8) 0 < 24) ∧ -1 ≤ σ (6, 9) 0 ∧ σ (6, 9) 0 < 24 := hg
  refine zr_ldc2l (n := 37) X dX6_digest_0 tw_228 rfl ?_
  refine zr_lstoren X dX6_digest_3 (by decide) rfl ?_
  refine zr_lloadn X dX6_digest_4 rfl ?_
  refine zr_ldc2l (n := 31) X dX6_digest_5 tw_229 rfl ?_
  refine zr_lmul X dX6_digest_8 ?_
  refine zr_aloadn X dX6_digest_9 rfl ?_
  refine zr_get X K (C := RX6) (T := TX6) (N := 5) (k := 0) mF_3_7 rfl rfl ti_6 (by decide) rfl tw_200 rfl dX6_digest_10 ?_
  refine zr_getN X K (C := RX4) (T := TX4) (N := 6) (k := 0) mF_0_0 rfl rfl ti_4 (by decide) rfl tn_38 rfl dX6_digest_13 ?_
  refine zr_i2l X dX6_digest_16 ⟨by omega, by omega⟩ ?_
  refine zr_ladd X dX6_digest_17 ?_
  refine zr_lstoren X dX6_digest_18 (by decide) rfl ?_
  refine zr_lloadn X dX6_digest_19 rfl ?_
  refine zr_ldc2l (n := 31) X dX6_digest_20 tw_229 rfl ?_
  refine zr_lmul X dX6_digest_23 ?_
  refine zr_aloadn X dX6_digest_24 rfl ?_
  refine zr_get X K (C := RX6) (T := TX6) (N := 5) (k := 0) mF_3_7 rfl rfl ti_6 (by decide) rfl tw_200 rfl dX6_digest_25 ?_
  refine zr_getN X K (C := RX4) (T := TX4) (N := 6) (k := 1) mF_0_0 rfl rfl ti_4 (by decide) rfl tn_44 rfl dX6_digest_28 ?_
  refine zr_i2l X dX6_digest_31 ⟨by omega, by omega⟩ ?_
  refine zr_ladd X dX6_digest_32 ?_
  refine zr_lstoren X dX6_digest_33 (by decide) rfl ?_
  refine zr_lloadn X dX6_digest_34 rfl ?_
  refine zr_ldc2l (n := 31) X dX6_digest_35 tw_229 rfl ?_
  refine zr_lmul X dX6_digest_38 ?_
  refine zr_aloadn X dX6_digest_39 rfl ?_
  refine zr_get X K (C := RX6) (T := TX6) (N := 5) (k := 3) mF_3_7 rfl rfl ti_6 (by decide) rfl tw_203 rfl dX6_digest_40 ?_
  refine zr_getN X K (C := RX2) (T := TX2) (N := 4) (k := 0) mF_3_0 rfl rfl ti_2 (by decide) rfl tn_166 rfl dX6_digest_43 ?_
  refine zr_i2l X dX6_digest_46 ⟨by omega, by omega⟩ ?_
  refine zr_ladd X dX6_digest_47 ?_
  refine zr_lstoren X dX6_digest_48 (by decide) rfl ?_
  refine zr_iconst X dX6_digest_49 ?_
  refine zr_istoren X dX6_digest_50 (by decide) rfl ?_
  have loop_51 : ∀ (n_51 : Nat) (d : Int) (i : Int), ((0 ≤ i ∧ i ≤ σ (0, 1) 0) ∧ d = dgS (σ (6, 2)) (((37 * 31 + σ (0, 0) 0) * 31 + σ (0, 1) 0) * 31 + σ (3, 0) 0) i.toNat) → (σ (0, 1) 0 - i).toNat < n_51 → Wx pg l ev (rmm 6 0 0) s0 mi av bl mt cd D cs idsF ad (Rg idsF ad) s0.heap 4 (MQ bl (qL D cs idsF ad ((fun z τ => fnOk τ ∧ keepQ σ τ ∧ dgP σ z))) av s0 0 0 (Rg idsF ad)) 0 0 σ 51 [some (.ref (ad (3, 7))), some (.long (iL (d))), none, some (jI i)] [] := by
    intro n_51
    induction n_51 with
    | zero => exact fun d i hinv hn => absurd hn (Nat.not_lt_zero _)
    | succ n_51 ih_51 =>
      intro d i hI_51 hn_51
      have hi0 := hI_51.1
      have hd := hI_51.2
      refine zr_iloadn X dX6_digest_51 rfl ?_
      refine zr_aloadn X dX6_digest_52 rfl ?_
      refine zr_get X K (C := RX6) (T := TX6) (N := 5) (k := 0) mF_3_7 rfl rfl ti_6 (by decide) rfl tw_200 rfl dX6_digest_53 ?_
      refine zr_getN X K (C := RX4) (T := TX4) (N := 6) (k := 1) mF_0_0 rfl rfl ti_4 (by decide) rfl tn_44 rfl dX6_digest_56 ?_
      refine zr_icmp_ge X 88 dX6_digest_59 (by decide) ⟨by omega, by omega⟩ ⟨by omega, by omega⟩ (fun t_59 => ?_) (fun f_59 => ?_)
      · have hi : i = σ (0, 1) 0 := by omega
        rw [hi] at hd
        refine zr_lloadn X dX6_digest_88 rfl ?_
        refine zr_ldc2l (n := 31) X dX6_digest_89 tw_229 rfl ?_
        refine zr_lmul X dX6_digest_92 ?_
        refine zr_aloadn X dX6_digest_93 rfl ?_
        refine zr_get X K (C := RX6) (T := TX6) (N := 5) (k := 1) mF_3_7 rfl rfl ti_6 (by decide) rfl tw_201 rfl dX6_digest_94 ?_
        refine zr_getN X K (v := (jI (σ (6, 8) 0))) (C := RX3) (T := TX3) (N := 6) (k := 3) mF_6_0 rfl rfl ti_3 (by decide) rfl tn_139 rfl dX6_digest_97 ?_
        refine zr_i2l X dX6_digest_100 ⟨by omega, by omega⟩ ?_
        refine zr_ladd X dX6_digest_101 ?_
        refine zr_lstoren X dX6_digest_102 (by decide) rfl ?_
        refine zr_lloadn X dX6_digest_103 rfl ?_
        refine zr_ldc2l (n := 31) X dX6_digest_104 tw_229 rfl ?_
        refine zr_lmul X dX6_digest_107 ?_
        refine zr_aloadn X dX6_digest_108 rfl ?_
        refine zr_get X K (C := RX6) (T := TX6) (N := 5) (k := 1) mF_3_7 rfl rfl ti_6 (by decide) rfl tw_201 rfl dX6_digest_109 ?_
        refine zr_getN X K (v := (jI (σ (6, 9) 0))) (C := RX3) (T := TX3) (N := 6) (k := 4) mF_6_0 rfl rfl ti_3 (by decide) rfl tn_143 rfl dX6_digest_112 ?_
        refine zr_i2l X dX6_digest_115 ⟨by omega, by omega⟩ ?_
        refine zr_ladd X dX6_digest_116 ?_
        refine zr_lstoren X dX6_digest_117 (by decide) rfl ?_
        refine zr_aloadn X dX6_digest_118 rfl ?_
        refine zr_get X K (C := RX6) (T := TX6) (N := 5) (k := 1) mF_3_7 rfl rfl ti_6 (by decide) rfl tw_201 rfl dX6_digest_119 ?_
        refine zr_callNI X K (q := (RX3, TX3, 6)) (st := []) (c_X3_hasEnds l D cs ad hap (b := 0) (by decide) (σ := σ) hN h.ends) ⟨tn_230, tw_232, tp_0, tw_3, tw_233⟩ dc_X3_hasEnds mF_6_0 rfl rfl rfl rfl rfl (Nat.le_of_ble_eq_true rfl) (by decide) dX6_digest_122 ?_
        intro y τ_ hp_
        obtain ⟨hτ_, hy⟩ := hp_
        subst τ_
        refine zr_if_eq X 173 dX6_digest_125 (by decide) (by rcases hy with q | q <;> exact ⟨by omega, by omega⟩) (fun t_125 => ?_) (fun f_125 => ?_)
        · refine zr_lloadn X dX6_digest_173 rfl ?_
          refine zr_lret X hr dX6_digest_174 ?_
          refine ⟨h, keepQ.rf, Or.inl ⟨(hy.resolve_left (fun q => by omega)).2, ?_⟩⟩
          rw [hd]
          rfl
        · have hEy := (hy.resolve_right (fun q => by omega)).2
          refine zr_lloadn X dX6_digest_128 rfl ?_
          refine zr_ldc2l (n := 31) X dX6_digest_129 tw_229 rfl ?_
          refine zr_lmul X dX6_digest_132 ?_
          refine zr_aloadn X dX6_digest_133 rfl ?_
          refine zr_get X K (C := RX6) (T := TX6) (N := 5) (k := 1) mF_3_7 rfl rfl ti_6 (by decide) rfl tw_201 rfl dX6_digest_134 ?_
          refine zr_callNI X K (q := (RX3, TX3, 6)) (st := [(.long (iL (((((d * 31) + (σ (6, 8) 0)) * 31) + (σ (6, 9) 0)) * 31)))]) (c_X3_greatestValue l D cs ad hap (b := 0) (by decide) (σ := σ) h.1 hEy (cut_0 h hEy)) ⟨tn_234, tw_236, tp_1, tw_3, tw_237⟩ dc_X3_greatestValue mF_6_0 rfl rfl rfl rfl rfl (Nat.le_of_ble_eq_true rfl) (by decide) dX6_digest_137 ?_
          intro F σ1 hgv
          have k1 := st_keep h hgv.1
          have hF : mnS σ (σ (6, 2)) (σ (6, 8) 0) (σ (6, 9) 0) F := isMn_of hgv.2.2
          have hFr := mn_rg h hF
          have hE1 := k1.2.ey hEy
          refine zr_i2l X dX6_digest_140 ⟨by omega, by omega⟩ ?_
          refine zr_ladd X dX6_digest_141 ?_
          refine zr_lstoren X dX6_digest_142 (by decide) rfl ?_
          refine zr_lloadn X dX6_digest_143 rfl ?_
          refine zr_ldc2l (n := 31) X dX6_digest_144 tw_229 rfl ?_
          refine zr_lmul X dX6_digest_147 ?_
          refine zr_aloadn X dX6_digest_148 rfl ?_
          refine zr_get X K (C := RX6) (T := TX6) (N := 5) (k := 1) mF_3_7 rfl rfl ti_6 (by decide) rfl tw_201 rfl dX6_digest_149 ?_
          refine zr_callNI X K (q := (RX3, TX3, 6)) (st := [(.long (iL (((((((d * 31) + (σ (6, 8) 0)) * 31) + (σ (6, 9) 0)) * 31) + F) * 31)))]) (c_X3_smallestMask l D cs ad hap (b := 0) (by decide) (σ := σ1) k1.1.1 hE1 (cut_0 k1.1 hE1)) ⟨tn_290, tw_292, tp_13, tw_3, tw_293⟩ dc_X3_smallestMask mF_6_0 rfl rfl rfl rfl rfl (Nat.le_of_ble_eq_true rfl) (by decide) dX6_digest_152 ?_
          intro a σ2 hsm
          have k2 := st_keep k1.1 hsm.1
          have hSm := k1.2.sm (sm_of hE1 hsm.1 hsm.2)
          have hE2 := k2.2.ey hE1
          have k12 := k1.2.tr k2.2
          have ha0 := hSm.1.1
          have ha1 := hSm.1.2
          refine zr_i2l X dX6_digest_155 ⟨by omega, by omega⟩ ?_
          refine zr_ladd X dX6_digest_156 ?_
          refine zr_lstoren X dX6_digest_157 (by decide) rfl ?_
          refine zr_lloadn X dX6_digest_158 rfl ?_
          refine zr_ldc2l (n := 31) X dX6_digest_159 tw_229 rfl ?_
          refine zr_lmul X dX6_digest_162 ?_
          refine zr_aloadn X dX6_digest_163 rfl ?_
          refine zr_get X K (C := RX6) (T := TX6) (N := 5) (k := 1) mF_3_7 rfl rfl ti_6 (by decide) rfl tw_201 rfl dX6_digest_164 ?_
          refine zr_callNI X K (q := (RX3, TX3, 6)) (st := [(.long (iL (((((((((d * 31) + (σ (6, 8) 0)) * 31) + (σ (6, 9) 0)) * 31) + F) * 31) + a) * 31)))]) (c_X3_greatestMask l D cs ad hap (b := 0) (by decide) (σ := σ2) k2.1.1 hE2 (cut_0 k2.1 hE2)) ⟨tn_306, tw_308, tp_16, tw_3, tw_309⟩ dc_X3_greatestMask mF_6_0 rfl rfl rfl rfl rfl (Nat.le_of_ble_eq_true rfl) (by decide) dX6_digest_167 ?_
          intro b τ hgm
          have k3 := st_keep k2.1 hgm.1
          have hGt := k12.gt (gt_of hE2 hgm.1 hgm.2)
          have hb0 := hGt.1.1
          have hb1 := hGt.1.2
          refine zr_i2l X dX6_digest_170 ⟨by omega, by omega⟩ ?_
          refine zr_ladd X dX6_digest_171 ?_
          refine zr_lstoren X dX6_digest_172 (by decide) rfl ?_
          refine zr_lloadn X dX6_digest_173 rfl ?_
          refine zr_lret X hr dX6_digest_174 ?_
          refine ⟨k3.1, k12.tr k3.2, Or.inr ⟨hEy, F, a, b, hF, hSm, hGt, ?_⟩⟩
          rw [hd]
          rfl
      · have hci := h.2.1 i hi0.1 (by omega)
        refine zr_lloadn X dX6_digest_62 rfl ?_
        refine zr_ldc2l (n := 31) X dX6_digest_63 tw_229 rfl ?_
        refine zr_lmul X dX6_digest_66 ?_
        refine zr_aloadn X dX6_digest_67 rfl ?_
        refine zr_get X K (C := RX6) (T := TX6) (N := 5) (k := 1) mF_3_7 rfl rfl ti_6 (by decide) rfl tw_201 rfl dX6_digest_68 ?_
        refine zr_getN X K (v := (.ref (ad (6, 1)))) (C := RX3) (T := TX3) (N := 6) (k := 1) mF_6_0 rfl rfl ti_3 (by decide) rfl tn_133 rfl dX6_digest_71 ?_
        refine zr_getN X K (v := (.ref (ad (6, 2)))) (C := RX1) (T := TX1) (N := 3) (k := 1) mF_6_1 rfl rfl ti_1 (by decide) rfl tn_88 rfl dX6_digest_74 ?_
        refine zr_iloadn X dX6_digest_77 rfl ?_
        refine zr_iald X K (n := 80) mF_6_2 rfl (by decide) (by omega) dX6_digest_78 ?_
        refine zr_i2l X dX6_digest_79 ⟨by omega, by omega⟩ ?_
        refine zr_ladd X dX6_digest_80 ?_
        refine zr_lstoren X dX6_digest_81 (by decide) rfl ?_
        refine zr_iinc X dX6_digest_82 rfl (by decide) rfl ?_
        refine zr_goto X 51 dX6_digest_85 (by decide) ?_
        refine Wx.weak (lo' := [some (.ref (ad (3, 7))), some (.long (iL ((d * 31) + (σ (6, 2) i)))), none, some (jI (i + 1))]) ⟨rfl, rfl, rfl, trivial⟩ ?_
        exact ih_51 _ _ ⟨⟨by omega, by omega⟩, by rw [dgS_succ hi0.1, ← hd]⟩ (by omega)
  refine Wx.weak (lo' := [some (.ref (ad (3, 7))), some (.long (iL ((((((37 * 31) + (σ (0, 0) 0)) * 31) + (σ (0, 1) 0)) * 31) + (σ (3, 0) 0)))), none, some (jI 0)]) ⟨rfl, rfl, rfl, trivial⟩ ?_
  exact loop_51 _ _ _ ⟨⟨by omega, by omega⟩, rfl⟩ (Nat.lt_succ_self _)
