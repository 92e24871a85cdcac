/-! THE LAW'S BODY -/
section BODY
variable {p : Program} {l : Launch} {e : Env} {s : State} {m : MethodId} {args : Array Value} {below : List Frame} {meth : Method} {c : Code} {D : va_G} {cs : Nat → ClassId} {ad : Ix → Nat} {A : Nat → Prop} {Q : State → Prop} {b L : Nat} {xs : Nat → Int32} {k n : Nat} {σ : Mem} {so si i : Int}

set_option maxHeartbeats 4000000 in
set_option maxRecDepth 100000 in
theorem law_cap (Z : LAt l p s m args meth c cL_law 16 D cs ad A b L xs) {cv a : Int} (H : LI σ so si) (ha : 0 ≤ a ∧ a < 7) (hk : k + 8 ≤ 600130 ∧ n + 48 ≤ 7301080) (kk : ∀ (τ : Mem) (so' si' a : Int), 0 ≤ a ∧ a < 7 → LI τ so' si' → Wx p l e room_1 s m args below meth c D cs idsA ad A s.heap 16 Q (k + 8) (n + 48) τ 283 [some (.ref (b)), some (.ref (ad (3, 7))), some (jI 5), some (.ref (ad (4, 0))), some (.ref (ad (4, 1))), some (.ref (ad (4, 2))), some (jI so'), some (jI si'), some (jI i), none, some (jI a), none, none, none, none, none] []) : Wx p l e room_1 s m args below meth c D cs idsA ad A s.heap 16 Q (k) (n) σ 94 [some (.ref (b)), some (.ref (ad (3, 7))), some (jI 5), some (.ref (ad (4, 0))), some (.ref (ad (4, 1))), some (.ref (ad (4, 2))), some (jI so), some (jI si), some (jI i), some (jI cv), some (jI a), none, none, none, none, none] [] := by
  obtain ⟨X, K, hZ, hA, hX, hbl, hbA, hL, hl⟩ := Z
  have hap := K.2.1
  have hapM := ap_M hap
  have hs := H.2.2.1
  have ht := H.2.2.2.1
  have hst := H.2.2.2.2
  have h00 := H.1.2.1
  have h01 := H.1.2.2.1
  refine zr_iload X dL_law_94 rfl ?_
  refine zr_bipush X dL_law_96 rfl ?_
  refine zr_ishr X dL_law_98 rfl ?_
  refine zr_bipush X dL_law_99 rfl ?_
  refine zr_lstat X K (As := [(.int (iI cv >>> (iI 8 &&& 31))), (jI 8)]) (st := []) (c_L_below l D cs ad hapM (σ := σ) (x := iI cv >>> (iI 8 &&& 31)) (n := 8) ⟨by decide, by decide⟩) ⟨tw_501, tw_502, tw_0, tw_503⟩ dc_L_below rfl rfl (Nat.le_of_ble_eq_true rfl) ⟨Nat.le_of_ble_eq_true rfl, Nat.le_of_ble_eq_true rfl⟩ ⟨by show k ≤ 600130; omega, by show n ≤ 7301080; omega⟩ dL_law_101 ?_
  intro cap h_cap
  refine zr_istore X dL_law_104 (by decide) rfl ?_
  refine zr_aloadn X dL_law_106 rfl ?_
  refine zr_iload X dL_law_107 rfl ?_
  refine zr_iload X dL_law_109 rfl ?_
  refine zr_lcallI X K hZ hA (As := [(jI a), (jI cap)]) (st := []) (c_X6_setCapacity l D cs ad (ap_F hap) hl (σ := σ) H.1.1 (a := a) (c := cap) ⟨by omega, by omega⟩ ⟨by omega, by omega⟩) ⟨tw_195, tw_196, tw_197, tw_1, tw_198⟩ dc_P_setCapacity rfl rfl rfl (Nat.le_of_ble_eq_true rfl) ⟨Nat.le_of_ble_eq_true rfl, Nat.le_of_ble_eq_true rfl⟩ ⟨by show k + 8 ≤ 600130; omega, by show n + 48 ≤ 7301080; omega⟩ dL_law_111 (fun z τ h k_ => h.2.1.1 4 k_ (by decide)) (fun E h => by rcases h with ⟨-, h⟩ | ⟨-, -, h⟩ <;> omega) ?_
  intro z τ hp
  have r0 : τ (4, 2) a = σ (4, 2) a := congrFun (hp.2.1.1 4 2 (by decide)) a
  have r1 := (H.1.2.2.2 a ha.1 ha.2).2.2
  have r2 := (LI_pre H a ha.1 ha.2).2.2
  have hz : z = τ (4, 2) a := by rw [hp.2.2.2.2, r0, r1]
  refine zr_aload X dL_law_114 rfl ?_
  refine zr_iload X dL_law_116 rfl ?_
  refine zr_iald X K (n := 7) mA_2 rfl (by decide) (by omega) dL_law_118 ?_
  refine zr_icmp_eq X 124 dL_law_119 (by decide) ⟨by omega, by omega⟩ ⟨by omega, by omega⟩ (fun t_119 => ?_) (fun f_119 => ?_)
  · refine zr_aload X dL_law_124 rfl ?_
    refine zr_iload X dL_law_126 rfl ?_
    refine zr_iload X dL_law_128 rfl ?_
    refine zr_iast X K (n := 7) mA_2 (fun _ => rfl) rfl (by decide) (by omega) dL_law_130 ?_
    generalize hm_σ1 : mset τ (4, 2) a cap = σ1
    refine zr_goto X 283 dL_law_131 (by decide) ?_
    exact Wx.weak (lo' := [some (.ref (b)), some (.ref (ad (3, 7))), some (jI 5), some (.ref (ad (4, 0))), some (.ref (ad (4, 1))), some (.ref (ad (4, 2))), some (jI so), some (jI si), some (jI i), none, some (jI a), none, none, none, none, none]) ⟨rfl, rfl, rfl, rfl, rfl, rfl, rfl, rfl, rfl, rfl, trivial⟩ (kk _ _ _ _ ha (LI_c H hp.2.1 hp.1 hm_σ1))
  · exact absurd hz f_119

set_option maxHeartbeats 4000000 in
set_option maxRecDepth 100000 in
theorem law_ends (Z : LAt l p s m args meth c cL_law 16 D cs ad A b L xs) {cv a : Int} (H : LI σ so si) (ha : 0 ≤ a ∧ a < 7) (hk : k + 8 ≤ 600130 ∧ n + 48 ≤ 7301080) (kk : ∀ (τ : Mem) (so' si' a : Int), 0 ≤ a ∧ a < 7 → LI τ so' si' → Wx p l e room_1 s m args below meth c D cs idsA ad A s.heap 16 Q (k + 8) (n + 48) τ 283 [some (.ref (b)), some (.ref (ad (3, 7))), some (jI 5), some (.ref (ad (4, 0))), some (.ref (ad (4, 1))), some (.ref (ad (4, 2))), some (jI so'), some (jI si'), some (jI i), none, some (jI a), none, none, none, none, none] []) : Wx p l e room_1 s m args below meth c D cs idsA ad A s.heap 16 Q (k) (n) σ 142 [some (.ref (b)), some (.ref (ad (3, 7))), some (jI 5), some (.ref (ad (4, 0))), some (.ref (ad (4, 1))), some (.ref (ad (4, 2))), some (jI so), some (jI si), some (jI i), some (jI cv), some (jI a), none, none, none, none, none] [] := by
  obtain ⟨X, K, hZ, hA, hX, hbl, hbA, hL, hl⟩ := Z
  have hap := K.2.1
  have hapM := ap_M hap
  have hs := H.2.2.1
  have ht := H.2.2.2.1
  have hst := H.2.2.2.2
  have h00 := H.1.2.1
  have h01 := H.1.2.2.1
  refine zr_iload X dL_law_142 rfl ?_
  refine zr_bipush X dL_law_144 rfl ?_
  refine zr_ishr X dL_law_146 rfl ?_
  refine zr_iloadn X dL_law_147 rfl ?_
  refine zr_lstat X K (As := [(.int (iI cv >>> (iI 8 &&& 31))), (jI 5)]) (st := []) (c_L_below l D cs ad hapM (σ := σ) (x := iI cv >>> (iI 8 &&& 31)) (n := 5) ⟨by decide, by decide⟩) ⟨tw_501, tw_502, tw_0, tw_503⟩ dc_L_below rfl rfl (Nat.le_of_ble_eq_true rfl) ⟨Nat.le_of_ble_eq_true rfl, Nat.le_of_ble_eq_true rfl⟩ ⟨by show k ≤ 600130; omega, by show n ≤ 7301080; omega⟩ dL_law_148 ?_
  intro v h_v
  refine zr_istore X dL_law_151 (by decide) rfl ?_
  refine zr_iload X dL_law_153 rfl ?_
  refine zr_iconst X dL_law_155 ?_
  refine zr_iadd X dL_law_156 ?_
  refine zr_iload X dL_law_157 rfl ?_
  refine zr_bipush X dL_law_159 rfl ?_
  refine zr_ishr X dL_law_161 rfl ?_
  refine zr_iloadn X dL_law_162 rfl ?_
  refine zr_iconst X dL_law_163 ?_
  refine zr_isub X dL_law_164 ?_
  refine zr_lstat X K (As := [(.int (iI cv >>> (iI 12 &&& 31))), (jI (5 - 1))]) (st := [(jI (v + 1))]) (c_L_below l D cs ad hapM (σ := σ) (x := iI cv >>> (iI 12 &&& 31)) (n := 5 - 1) ⟨by decide, by decide⟩) ⟨tw_501, tw_502, tw_0, tw_503⟩ dc_L_below rfl rfl (Nat.le_of_ble_eq_true rfl) ⟨Nat.le_of_ble_eq_true rfl, Nat.le_of_ble_eq_true rfl⟩ ⟨by show k ≤ 600130; omega, by show n ≤ 7301080; omega⟩ dL_law_165 ?_
  intro w h_w
  refine zr_iadd X dL_law_168 ?_
  refine zr_iloadn X dL_law_169 rfl ?_
  refine zr_irem X dL_law_170 (by decide) (zb_rem (x := (v + 1) + w) (n := 5) ⟨by omega, by omega⟩ ⟨by decide, by decide⟩) ?_
  refine zr_istore X dL_law_171 (by decide) rfl ?_
  refine zr_aloadn X dL_law_173 rfl ?_
  refine zr_iload X dL_law_174 rfl ?_
  refine zr_iload X dL_law_176 rfl ?_
  refine zr_lcallI X K hZ hA (As := [(jI v), (jI (((v + 1) + w) % 5))]) (st := []) (c_X6_setEnds l D cs ad (ap_F hap) hl (σ := σ) H.1.1 (s := v) (t := (v + 1 + w) % 5) ⟨by omega, by omega⟩ ⟨by omega, by omega⟩) ⟨tw_365, tw_366, tw_367, tw_1, tw_368⟩ dc_P_setEnds rfl rfl rfl (Nat.le_of_ble_eq_true rfl) ⟨Nat.le_of_ble_eq_true rfl, Nat.le_of_ble_eq_true rfl⟩ ⟨by show k + 8 ≤ 600130; omega, by show n + 48 ≤ 7301080; omega⟩ dL_law_178 (fun z τ h k_ => h.2.1.1 4 k_ (by decide)) (fun E h => by rcases h with ⟨-, h⟩ | ⟨-, -, -, h⟩ <;> omega) ?_
  intro z τ hp
  have hz := hp.2.2.2.2
  have hz0 := hp.2.2.2.1
  rw [H.2.1.1, H.2.1.2] at hz
  refine zr_iload X dL_law_181 rfl ?_
  refine zr_iload X dL_law_183 rfl ?_
  refine zr_icmp_ne X 195 dL_law_185 (by decide) ⟨by omega, by omega⟩ ⟨by omega, by omega⟩ (fun t_185 => ?_) (fun f_185 => ?_)
  · refine zr_iconst X dL_law_195 ?_
    refine zr_goto X 200 dL_law_196 (by decide) ?_
    refine zr_icmp_eq X 205 dL_law_200 (by decide) ⟨by omega, by omega⟩ ⟨by omega, by omega⟩ (fun t_200 => ?_) (fun f_200 => ?_)
    · refine zr_iload X dL_law_205 rfl ?_
      refine zr_istore X dL_law_207 (by decide) rfl ?_
      refine zr_iload X dL_law_209 rfl ?_
      refine zr_istore X dL_law_211 (by decide) rfl ?_
      refine zr_goto X 283 dL_law_213 (by decide) ?_
      exact Wx.weak (lo' := [some (.ref (b)), some (.ref (ad (3, 7))), some (jI 5), some (.ref (ad (4, 0))), some (.ref (ad (4, 1))), some (.ref (ad (4, 2))), some (jI v), some (jI (((v + 1) + w) % 5)), some (jI i), none, some (jI a), none, none, none, none, none]) ⟨rfl, rfl, rfl, rfl, rfl, rfl, rfl, rfl, rfl, rfl, trivial⟩ (kk _ _ _ _ ha (LI_e H hp.2.1 hp.1 ⟨by omega, by omega⟩ ⟨by omega, by omega⟩ (by omega)))
    · exact absurd (by omega) f_200
  · refine zr_iload X dL_law_188 rfl ?_
    refine zr_iload X dL_law_190 rfl ?_
    refine zr_icmp_eq X 199 dL_law_192 (by decide) ⟨by omega, by omega⟩ ⟨by omega, by omega⟩ (fun t_192 => ?_) (fun f_192 => ?_)
    · refine zr_iconst X dL_law_199 ?_
      refine zr_icmp_eq X 205 dL_law_200 (by decide) ⟨by omega, by omega⟩ ⟨by omega, by omega⟩ (fun t_200 => ?_) (fun f_200 => ?_)
      · refine zr_iload X dL_law_205 rfl ?_
        refine zr_istore X dL_law_207 (by decide) rfl ?_
        refine zr_iload X dL_law_209 rfl ?_
        refine zr_istore X dL_law_211 (by decide) rfl ?_
        refine zr_goto X 283 dL_law_213 (by decide) ?_
        exact Wx.weak (lo' := [some (.ref (b)), some (.ref (ad (3, 7))), some (jI 5), some (.ref (ad (4, 0))), some (.ref (ad (4, 1))), some (.ref (ad (4, 2))), some (jI v), some (jI (((v + 1) + w) % 5)), some (jI i), none, some (jI a), none, none, none, none, none]) ⟨rfl, rfl, rfl, rfl, rfl, rfl, rfl, rfl, rfl, rfl, trivial⟩ (kk _ _ _ _ ha (LI_e H hp.2.1 hp.1 ⟨by omega, by omega⟩ ⟨by omega, by omega⟩ (by omega)))
      · exact absurd (by omega) f_200
    · refine zr_iconst X dL_law_195 ?_
      refine zr_goto X 200 dL_law_196 (by decide) ?_
      refine zr_icmp_eq X 205 dL_law_200 (by decide) ⟨by omega, by omega⟩ ⟨by omega, by omega⟩ (fun t_200 => ?_) (fun f_200 => ?_)
      · refine zr_iload X dL_law_205 rfl ?_
        refine zr_istore X dL_law_207 (by decide) rfl ?_
        refine zr_iload X dL_law_209 rfl ?_
        refine zr_istore X dL_law_211 (by decide) rfl ?_
        refine zr_goto X 283 dL_law_213 (by decide) ?_
        exact Wx.weak (lo' := [some (.ref (b)), some (.ref (ad (3, 7))), some (jI 5), some (.ref (ad (4, 0))), some (.ref (ad (4, 1))), some (.ref (ad (4, 2))), some (jI v), some (jI (((v + 1) + w) % 5)), some (jI i), none, some (jI a), none, none, none, none, none]) ⟨rfl, rfl, rfl, rfl, rfl, rfl, rfl, rfl, rfl, rfl, trivial⟩ (kk _ _ _ _ ha (LI_e H hp.2.1 hp.1 ⟨by omega, by omega⟩ ⟨by omega, by omega⟩ (by omega)))
      · exact absurd (by omega) f_200

set_option maxHeartbeats 4000000 in
set_option maxRecDepth 100000 in
theorem law_scale (Z : LAt l p s m args meth c cL_law 16 D cs ad A b L xs) {cv a : Int} (H : LI σ so si) (ha : 0 ≤ a ∧ a < 7) (hk : k + 8 ≤ 600130 ∧ n + 48 ≤ 7301080) (kk : ∀ (τ : Mem) (so' si' a : Int), 0 ≤ a ∧ a < 7 → LI τ so' si' → Wx p l e room_1 s m args below meth c D cs idsA ad A s.heap 16 Q (k + 8) (n + 48) τ 283 [some (.ref (b)), some (.ref (ad (3, 7))), some (jI 5), some (.ref (ad (4, 0))), some (.ref (ad (4, 1))), some (.ref (ad (4, 2))), some (jI so'), some (jI si'), some (jI i), none, some (jI a), none, none, none, none, none] []) : Wx p l e room_1 s m args below meth c D cs idsA ad A s.heap 16 Q (k) (n) σ 216 [some (.ref (b)), some (.ref (ad (3, 7))), some (jI 5), some (.ref (ad (4, 0))), some (.ref (ad (4, 1))), some (.ref (ad (4, 2))), some (jI so), some (jI si), some (jI i), some (jI cv), some (jI a), none, none, none, none, none] [] := by
  obtain ⟨X, K, hZ, hA, hX, hbl, hbA, hL, hl⟩ := Z
  have hap := K.2.1
  have hapM := ap_M hap
  have hs := H.2.2.1
  have ht := H.2.2.2.1
  have hst := H.2.2.2.2
  have h00 := H.1.2.1
  have h01 := H.1.2.2.1
  refine zr_iload X dL_law_216 rfl ?_
  refine zr_bipush X dL_law_218 rfl ?_
  refine zr_ishr X dL_law_220 rfl ?_
  refine zr_iloadn X dL_law_221 rfl ?_
  refine zr_lstat X K (As := [(.int (iI cv >>> (iI 8 &&& 31))), (jI 5)]) (st := []) (c_L_below l D cs ad hapM (σ := σ) (x := iI cv >>> (iI 8 &&& 31)) (n := 5) ⟨by decide, by decide⟩) ⟨tw_501, tw_502, tw_0, tw_503⟩ dc_L_below rfl rfl (Nat.le_of_ble_eq_true rfl) ⟨Nat.le_of_ble_eq_true rfl, Nat.le_of_ble_eq_true rfl⟩ ⟨by show k ≤ 600130; omega, by show n ≤ 7301080; omega⟩ dL_law_222 ?_
  intro v h_v
  refine zr_istore X dL_law_225 (by decide) rfl ?_
  refine zr_iconst X dL_law_227 ?_
  refine zr_istore X dL_law_228 (by decide) rfl ?_
  have loop_230 : ∀ (n_230 : Nat) (j : Int) (υ : Mem), ((0 ≤ j ∧ j ≤ 7) ∧ scL σ υ v j) → (7 - j).toNat < n_230 → Wx p l e room_1 s m args below meth c D cs idsA ad A s.heap 16 Q (k) (n) υ 230 [some (.ref (b)), some (.ref (ad (3, 7))), some (jI 5), some (.ref (ad (4, 0))), some (.ref (ad (4, 1))), some (.ref (ad (4, 2))), some (jI so), some (jI si), some (jI i), none, some (jI a), some (jI v), some (jI j), none, none, none] [] := by
    intro n_230
    induction n_230 with
    | zero => exact fun j υ hinv hn => absurd hn (Nat.not_lt_zero _)
    | succ n_230 ih_230 =>
      intro j υ hI_230 hn_230
      have hj0 := hI_230.1
      refine zr_iload X dL_law_230 rfl ?_
      refine zr_bipush X dL_law_232 rfl ?_
      refine zr_icmp_ge X 269 dL_law_234 (by decide) ⟨by omega, by omega⟩ ⟨by omega, by omega⟩ (fun t_234 => ?_) (fun f_234 => ?_)
      · have hj7 : j = 7 := by omega
        have hfin := hI_230.2
        rw [hj7] at hfin
        have hpre := scL_pre H hfin
        have p0 := hpre.2.1
        have p1 := hpre.2.2
        refine zr_aloadn X dL_law_269 rfl ?_
        refine zr_iload X dL_law_270 rfl ?_
        refine zr_ldc2d X dL_law_272 tw_539 ?_
        refine zr_lcallI X K hZ hA (As := [(jI v), (.double (4611686018427387904))]) (st := []) (c_X6_scale l D cs ad (ap_F hap) hl (σ := υ) hpre.1 (v := v) (k := 16) ⟨by omega, by omega⟩ d8_two) ⟨tw_346, tw_347, tw_348, tw_1, tw_349⟩ dc_P_scale rfl rfl rfl (Nat.le_of_ble_eq_true rfl) ⟨Nat.le_of_ble_eq_true rfl, Nat.le_of_ble_eq_true rfl⟩ ⟨by show k + 8 ≤ 600130; omega, by show n + 48 ≤ 7301080; omega⟩ dL_law_275 (fun z τ h k_ => h.2.1.1 4 k_ (by decide)) (fun E h => by rcases h with ⟨-, h⟩ | ⟨-, -, h⟩ <;> omega) ?_
        intro z τ hp
        have hz : 0 ≤ z ∧ z ≤ 80 := by
          rw [hp.2.2.2.2, hpre.2.2]
          refine ⟨sm_nn fun j _ _ => by unfold chF; split <;> decide, ?_⟩
          have : sm (chF υ v 16) (7 : Int).toNat ≤ sm (fun _ => 1) (7 : Int).toNat := sm_le fun j _ _ => by unfold chF; split <;> decide
          rw [sm_const] at this
          omega
        refine zr_if_ge X 283 dL_law_278 (by decide) ⟨by omega, by omega⟩ (fun t_278 => ?_) (fun f_278 => ?_)
        · exact Wx.weak (lo' := [some (.ref (b)), some (.ref (ad (3, 7))), some (jI 5), some (.ref (ad (4, 0))), some (.ref (ad (4, 1))), some (.ref (ad (4, 2))), some (jI so), some (jI si), some (jI i), none, some (jI a), none, none, none, none, none]) ⟨rfl, rfl, rfl, rfl, rfl, rfl, rfl, rfl, rfl, rfl, trivial⟩ (kk _ _ _ _ ha (LI_s H hfin hp.2.1 hp.1))
        · exact absurd hz.1 f_278
      · have r4 := LI_pre H j (by omega) (by omega)
        have r5 : υ (4, 0) j = σ (4, 0) j := congrFun (hI_230.2.1 (4, 0) (by decide)) j
        have r6 := scL_at hI_230.2
        refine zr_aloadn X dL_law_237 rfl ?_
        refine zr_iload X dL_law_238 rfl ?_
        refine zr_iald X K (n := 7) mA_0 rfl (by decide) (by omega) dL_law_240 ?_
        refine zr_iload X dL_law_241 rfl ?_
        refine zr_icmp_ne X 263 dL_law_243 (by decide) ⟨by omega, by omega⟩ ⟨by omega, by omega⟩ (fun t_243 => ?_) (fun f_243 => ?_)
        · refine zr_iinc X dL_law_263 rfl (by decide) rfl ?_
          refine zr_goto X 230 dL_law_266 (by decide) ?_
          refine Wx.weak (lo' := [some (.ref (b)), some (.ref (ad (3, 7))), some (jI 5), some (.ref (ad (4, 0))), some (.ref (ad (4, 1))), some (.ref (ad (4, 2))), some (jI so), some (jI si), some (jI i), none, some (jI a), some (jI v), some (jI (j + 1)), none, none, none]) ⟨rfl, rfl, rfl, rfl, rfl, rfl, rfl, rfl, rfl, rfl, rfl, rfl, trivial⟩ ?_
          exact ih_230 _ _ ⟨⟨by omega, by omega⟩, scL_no hI_230.2 t_243⟩ (by omega)
        · refine zr_aload X dL_law_246 rfl ?_
          refine zr_iload X dL_law_248 rfl ?_
          refine zr_iconst X dL_law_250 ?_
          refine zr_aload X dL_law_251 rfl ?_
          refine zr_iload X dL_law_253 rfl ?_
          refine zr_iald X K (n := 7) mA_2 rfl (by decide) (by omega) dL_law_255 ?_
          refine zr_imul X dL_law_256 ?_
          refine zr_ldc (n := 1000000) X dL_law_257 tw_538 rfl ?_
          refine zr_min X tw_537 tw_336 tw_15 tw_337 ⟨Nat.le_of_ble_eq_true rfl, Nat.le_of_ble_eq_true rfl, by show k ≤ 600130; omega, by show n ≤ 7301080; omega⟩ ⟨by omega, by omega⟩ ⟨by omega, by omega⟩ dL_law_259 (fun w_259 h_w_259 => ?_)
          refine zr_iast X K (n := 7) mA_2 (fun _ => rfl) rfl (by decide) (by omega) dL_law_262 ?_
          generalize hm_σ1 : mset υ (4, 2) j w_259 = σ1
          refine zr_iinc X dL_law_263 rfl (by decide) rfl ?_
          refine zr_goto X 230 dL_law_266 (by decide) ?_
          refine Wx.weak (lo' := [some (.ref (b)), some (.ref (ad (3, 7))), some (jI 5), some (.ref (ad (4, 0))), some (.ref (ad (4, 1))), some (.ref (ad (4, 2))), some (jI so), some (jI si), some (jI i), none, some (jI a), some (jI v), some (jI (j + 1)), none, none, none]) ⟨rfl, rfl, rfl, rfl, rfl, rfl, rfl, rfl, rfl, rfl, rfl, rfl, trivial⟩ ?_
          exact ih_230 _ _ ⟨⟨by omega, by omega⟩, scL_yes hI_230.2 (by omega) f_243 ⟨by omega, by omega⟩ hm_σ1⟩ (by omega)
  refine Wx.weak (lo' := [some (.ref (b)), some (.ref (ad (3, 7))), some (jI 5), some (.ref (ad (4, 0))), some (.ref (ad (4, 1))), some (.ref (ad (4, 2))), some (jI so), some (jI si), some (jI i), none, some (jI a), some (jI v), some (jI 0), none, none, none]) ⟨rfl, rfl, rfl, rfl, rfl, rfl, rfl, rfl, rfl, rfl, rfl, rfl, trivial⟩ ?_
  exact loop_230 _ _ _ ⟨⟨by omega, by omega⟩, scL_0⟩ (Nat.lt_succ_self _)

set_option maxHeartbeats 4000000 in
set_option maxRecDepth 100000 in
theorem law_change (Z : LAt l p s m args meth c cL_law 16 D cs ad A b L xs) (H : LI σ so si) (hi : 0 ≤ i ∧ i < 10) (hk : k + 8 ≤ 600130 ∧ n + 48 ≤ 7301080) (kk : ∀ (τ : Mem) (so' si' a : Int), 0 ≤ a ∧ a < 7 → LI τ so' si' → Wx p l e room_1 s m args below meth c D cs idsA ad A s.heap 16 Q (k + 8) (n + 48) τ 283 [some (.ref (b)), some (.ref (ad (3, 7))), some (jI 5), some (.ref (ad (4, 0))), some (.ref (ad (4, 1))), some (.ref (ad (4, 2))), some (jI so'), some (jI si'), some (jI i), none, some (jI a), none, none, none, none, none] []) : Wx p l e room_1 s m args below meth c D cs idsA ad A s.heap 16 Q (k) (n) σ 64 [some (.ref (b)), some (.ref (ad (3, 7))), some (jI 5), some (.ref (ad (4, 0))), some (.ref (ad (4, 1))), some (.ref (ad (4, 2))), some (jI so), some (jI si), some (jI i), none, none, none, none, none, none, none] [] := by
  have Z0 := Z
  obtain ⟨X, K, hZ, hA, hX, hbl, hbA, hL, hl⟩ := Z
  have hap := K.2.1
  have hapM := ap_M hap
  have hs := H.2.2.1
  have ht := H.2.2.2.1
  have hst := H.2.2.2.2
  have h00 := H.1.2.1
  have h01 := H.1.2.2.1
  refine zr_aloadn X dL_law_64 rfl ?_
  refine zr_bipush X dL_law_65 rfl ?_
  refine zr_iload X dL_law_67 rfl ?_
  refine zr_iadd X dL_law_69 ?_
  refine zr_lscr X K hX hbl hbA (As := [(.ref (b)), (jI (7 + i))]) (st := []) (c_L_cell l D cs hL (i := 7 + i) ⟨by omega, by omega⟩) ⟨tw_505, tw_506, tw_0, tw_507⟩ dc_L_cell rfl rfl (Nat.le_of_ble_eq_true rfl) ⟨Nat.le_of_ble_eq_true rfl, Nat.le_of_ble_eq_true rfl⟩ ⟨by show k ≤ 600130; omega, by show n ≤ 7301080; omega⟩ dL_law_70 ?_
  intro cv _
  refine zr_istore X dL_law_73 (by decide) rfl ?_
  refine zr_iload X dL_law_75 rfl ?_
  refine zr_iconst X dL_law_77 ?_
  refine zr_ishr X dL_law_78 rfl ?_
  refine zr_bipush X dL_law_79 rfl ?_
  refine zr_lstat X K (As := [(.int (iI cv >>> (iI 4 &&& 31))), (jI 7)]) (st := []) (c_L_below l D cs ad hapM (σ := σ) (x := iI cv >>> (iI 4 &&& 31)) (n := 7) ⟨by decide, by decide⟩) ⟨tw_501, tw_502, tw_0, tw_503⟩ dc_L_below rfl rfl (Nat.le_of_ble_eq_true rfl) ⟨Nat.le_of_ble_eq_true rfl, Nat.le_of_ble_eq_true rfl⟩ ⟨by show k ≤ 600130; omega, by show n ≤ 7301080; omega⟩ dL_law_81 ?_
  intro a ha
  obtain ⟨u, hu, hu0⟩ := and3 (iI cv)
  refine zr_istore X dL_law_84 (by decide) rfl ?_
  refine zr_iload X dL_law_86 rfl ?_
  refine zr_iconst X dL_law_88 ?_
  refine zr_iand X dL_law_89 hu ?_
  refine zr_iconst X dL_law_90 ?_
  refine zr_icmp_ge X 134 dL_law_91 (by decide) ⟨by omega, by omega⟩ ⟨by omega, by omega⟩ (fun t_91 => ?_) (fun f_91 => ?_)
  · refine zr_iload X dL_law_134 rfl ?_
    refine zr_iconst X dL_law_136 ?_
    refine zr_iand X dL_law_137 hu ?_
    refine zr_iconst X dL_law_138 ?_
    refine zr_icmp_ne X 216 dL_law_139 (by decide) ⟨by omega, by omega⟩ ⟨by omega, by omega⟩ (fun t_139 => ?_) (fun f_139 => ?_)
    · exact Wx.weak (lo' := [some (.ref (b)), some (.ref (ad (3, 7))), some (jI 5), some (.ref (ad (4, 0))), some (.ref (ad (4, 1))), some (.ref (ad (4, 2))), some (jI so), some (jI si), some (jI i), some (jI cv), some (jI a), none, none, none, none, none]) ⟨rfl, rfl, rfl, rfl, rfl, rfl, rfl, rfl, rfl, rfl, rfl, trivial⟩ (law_scale Z0 H ha hk kk)
    · exact Wx.weak (lo' := [some (.ref (b)), some (.ref (ad (3, 7))), some (jI 5), some (.ref (ad (4, 0))), some (.ref (ad (4, 1))), some (.ref (ad (4, 2))), some (jI so), some (jI si), some (jI i), some (jI cv), some (jI a), none, none, none, none, none]) ⟨rfl, rfl, rfl, rfl, rfl, rfl, rfl, rfl, rfl, rfl, rfl, trivial⟩ (law_ends Z0 H ha hk kk)
  · exact Wx.weak (lo' := [some (.ref (b)), some (.ref (ad (3, 7))), some (jI 5), some (.ref (ad (4, 0))), some (.ref (ad (4, 1))), some (.ref (ad (4, 2))), some (jI so), some (jI si), some (jI i), some (jI cv), some (jI a), none, none, none, none, none]) ⟨rfl, rfl, rfl, rfl, rfl, rfl, rfl, rfl, rfl, rfl, rfl, trivial⟩ (law_cap Z0 H ha hk kk)

set_option maxHeartbeats 4000000 in
set_option maxRecDepth 100000 in
theorem law_masks (Z : LAt l p s m args meth c cL_law 16 D cs ad A b L xs) {a : Int} (H : LI σ so si) (hk : k ≤ 600130 ∧ n ≤ 7301080) (kk : ∀ x y o : Int, LE σ so si x y o → Wx p l e room_1 s m args below meth c D cs idsA ad A s.heap 16 Q (k) (n) σ 398 [some (.ref (b)), some (.ref (ad (3, 7))), some (jI 5), some (.ref (ad (4, 0))), some (.ref (ad (4, 1))), some (.ref (ad (4, 2))), some (jI so), some (jI si), some (jI i), none, some (jI a), some (jI x), some (jI y), some (jI o), none, none] []) : Wx p l e room_1 s m args below meth c D cs idsA ad A s.heap 16 Q (k) (n) σ 283 [some (.ref (b)), some (.ref (ad (3, 7))), some (jI 5), some (.ref (ad (4, 0))), some (.ref (ad (4, 1))), some (.ref (ad (4, 2))), some (jI so), some (jI si), some (jI i), none, some (jI a), none, none, none, none, none] [] := by
  obtain ⟨X, K, hZ, hA, hX, hbl, hbA, hL, hl⟩ := Z
  have hap := K.2.1
  have hapM := ap_M hap
  have hs := H.2.2.1
  have ht := H.2.2.2.1
  have hst := H.2.2.2.2
  have h00 := H.1.2.1
  have h01 := H.1.2.2.1
  have hp5 := p5
  refine zr_ldc (n := 2147483647) X dL_law_283 tw_504 rfl ?_
  refine zr_istore X dL_law_285 (by decide) rfl ?_
  refine zr_iconst X dL_law_287 ?_
  refine zr_istore X dL_law_288 (by decide) rfl ?_
  refine zr_iconst X dL_law_290 ?_
  refine zr_istore X dL_law_291 (by decide) rfl ?_
  refine zr_iconst X dL_law_293 ?_
  refine zr_istore X dL_law_294 (by decide) rfl ?_
  have loop_296 : ∀ (n_296 : Nat) (x : Int) (y : Int) (o : Int) (q : Int), (mI (vq so si) (cpL σ) q x y o) → (32 - q).toNat < n_296 → Wx p l e room_1 s m args below meth c D cs idsA ad A s.heap 16 Q (k) (n) σ 296 [some (.ref (b)), some (.ref (ad (3, 7))), some (jI 5), some (.ref (ad (4, 0))), some (.ref (ad (4, 1))), some (.ref (ad (4, 2))), some (jI so), some (jI si), some (jI i), none, some (jI a), some (jI x), some (jI y), some (jI o), some (jI q), none] [] := by
    intro n_296
    induction n_296 with
    | zero => exact fun x y o q hinv hn => absurd hn (Nat.not_lt_zero _)
    | succ n_296 ih_296 =>
      intro x y o q hI_296 hn_296
      have hq0 := hI_296.1
      have hr0 := mI_rg (cpL_rg H) hI_296
      refine zr_iload X dL_law_296 rfl ?_
      refine zr_iconst X dL_law_298 ?_
      refine zr_iloadn X dL_law_299 rfl ?_
      refine zr_ishl X dL_law_300 (zb_shl (by omega) (by omega)) ?_
      refine zr_icmp_ge X 398 dL_law_301 (by decide) ⟨by omega, by omega⟩ ⟨by omega, by omega⟩ (fun t_301 => ?_) (fun f_301 => ?_)
      · have hq32 : q = 32 := by omega
        have hfin := hI_296
        rw [hq32] at hfin
        exact Wx.weak (lo' := [some (.ref (b)), some (.ref (ad (3, 7))), some (jI 5), some (.ref (ad (4, 0))), some (.ref (ad (4, 1))), some (.ref (ad (4, 2))), some (jI so), some (jI si), some (jI i), none, some (jI a), some (jI x), some (jI y), some (jI o), none, none]) ⟨rfl, rfl, rfl, rfl, rfl, rfl, rfl, rfl, rfl, rfl, rfl, rfl, rfl, trivial⟩ (kk _ _ _ (LE_of H hfin))
      · have hq32 : q < 32 := by omega
        refine zr_iload X dL_law_304 rfl ?_
        refine zr_iload X dL_law_306 rfl ?_
        refine zr_ishr X dL_law_308 (zb_shr (by omega) (by omega) hs.1 (by omega)) ?_
        refine zr_iconst X dL_law_309 ?_
        refine zr_iand X dL_law_310 ((zb_and1 (sI_rg (by omega)).1 (sI_rg (by omega)).2).trans (congrArg iI sI_mod)) ?_
        refine zr_if_eq X 392 dL_law_311 (by decide) ite01 (fun t_311 => ?_) (fun f_311 => ?_)
        · refine zr_iinc X dL_law_392 rfl (by decide) rfl ?_
          refine zr_goto X 296 dL_law_395 (by decide) ?_
          refine Wx.weak (lo' := [some (.ref (b)), some (.ref (ad (3, 7))), some (jI 5), some (.ref (ad (4, 0))), some (.ref (ad (4, 1))), some (.ref (ad (4, 2))), some (jI so), some (jI si), some (jI i), none, some (jI a), some (jI x), some (jI y), some (jI o), some (jI (q + 1)), none]) ⟨rfl, rfl, rfl, rfl, rfl, rfl, rfl, rfl, rfl, rfl, rfl, rfl, rfl, rfl, trivial⟩ ?_
          first | exact ih_296 _ _ _ _ (mI_no hI_296 (by omega) (fun g => absurd g.1 (ite0 t_311)) (fun g => absurd g.1 (ite0 t_311)) (fun g => absurd g.1 (ite0 t_311))) (by omega) | exact ih_296 _ _ _ _ (mI_no hI_296 (by omega) (fun g => absurd (ite11 f_322) g.2) (fun g => absurd (ite11 f_322) g.2) (fun g => absurd (ite11 f_322) g.2)) (by omega) | exact ih_296 _ _ _ _ (mI_no hI_296 (by omega) (fun _ => by omega) (fun _ => by omega) (fun _ => by omega)) (by omega)
        · refine zr_iload X dL_law_314 rfl ?_
          refine zr_iload X dL_law_316 rfl ?_
          refine zr_ishr X dL_law_318 (zb_shr (by omega) (by omega) ht.1 (by omega)) ?_
          refine zr_iconst X dL_law_319 ?_
          refine zr_iand X dL_law_320 ((zb_and1 (sI_rg (by omega)).1 (sI_rg (by omega)).2).trans (congrArg iI sI_mod)) ?_
          refine zr_iconst X dL_law_321 ?_
          refine zr_icmp_ne X 328 dL_law_322 (by decide) ite01 ⟨by decide, by decide⟩ (fun t_322 => ?_) (fun f_322 => ?_)
          · have hK : vq so si q := ⟨ite1 f_311, n_ite1 t_322⟩
            refine zr_iload X dL_law_328 rfl ?_
            refine zr_aloadn X dL_law_330 rfl ?_
            refine zr_aload X dL_law_331 rfl ?_
            refine zr_aload X dL_law_333 rfl ?_
            refine zr_lstat X K (As := [(jI q), (.ref (ad (4, 0))), (.ref (ad (4, 1))), (.ref (ad (4, 2)))]) (st := []) (c_L_cut l D cs ad hapM (σ := σ) (q := q) ⟨by omega, by omega⟩ (LI_pre H)) ⟨tw_534, tw_535, tw_0, tw_536⟩ dc_L_cutCapacity rfl rfl (Nat.le_of_ble_eq_true rfl) ⟨Nat.le_of_ble_eq_true rfl, Nat.le_of_ble_eq_true rfl⟩ ⟨by show k ≤ 600130; omega, by show n ≤ 7301080; omega⟩ dL_law_335 ?_
            intro z_ hz_
            subst z_
            have hr := cpL_rg H q
            refine zr_istore X dL_law_338 (by decide) rfl ?_
            refine zr_iload X dL_law_340 rfl ?_
            refine zr_iload X dL_law_342 rfl ?_
            refine zr_icmp_le X 350 dL_law_344 (by decide) ⟨by omega, by omega⟩ ⟨by omega, by omega⟩ (fun t_344 => ?_) (fun f_344 => ?_)
            · refine zr_iload X dL_law_350 rfl ?_
              refine zr_iload X dL_law_352 rfl ?_
              refine zr_icmp_ge X 362 dL_law_354 (by decide) ⟨by omega, by omega⟩ ⟨by omega, by omega⟩ (fun t_354 => ?_) (fun f_354 => ?_)
              · have he : cpL σ q = x := by omega
                have hq := mI_eq hI_296 hq32 hK he (by omega)
                refine zr_iload X dL_law_362 rfl ?_
                refine zr_iload X dL_law_364 rfl ?_
                refine zr_iand X dL_law_366 (zb_and hq.1.1 hq0.1) ?_
                refine zr_istore X dL_law_367 (by decide) rfl ?_
                refine zr_iload X dL_law_369 rfl ?_
                refine zr_iload X dL_law_371 rfl ?_
                refine zr_icmp_ge X 381 dL_law_373 (by decide) ⟨by omega, by omega⟩ ⟨by omega, by omega⟩ (fun t_373 => ?_) (fun f_373 => ?_)
                · refine zr_iload X dL_law_381 rfl ?_
                  refine zr_iload X dL_law_383 rfl ?_
                  refine zr_ior X dL_law_385 (zb_or hq.1.2 hq0.1) ?_
                  refine zr_istore X dL_law_386 (by decide) rfl ?_
                  refine zr_iload X dL_law_388 rfl ?_
                  refine zr_istore X dL_law_390 (by decide) rfl ?_
                  refine zr_iinc X dL_law_392 rfl (by decide) rfl ?_
                  refine zr_goto X 296 dL_law_395 (by decide) ?_
                  refine Wx.weak (lo' := [some (.ref (b)), some (.ref (ad (3, 7))), some (jI 5), some (.ref (ad (4, 0))), some (.ref (ad (4, 1))), some (.ref (ad (4, 2))), some (jI so), some (jI si), some (jI i), none, some (jI a), some (jI (cpL σ q)), some (jI (aI y q)), some (jI (oI o q)), some (jI (q + 1)), none]) ⟨rfl, rfl, rfl, rfl, rfl, rfl, rfl, rfl, rfl, rfl, rfl, rfl, rfl, rfl, trivial⟩ ?_
                  exact ih_296 _ _ _ _ (by rw [he]; exact hq.2) (by omega)
                · exact absurd f_373 (by omega)
              · refine zr_iload X dL_law_357 rfl ?_
                refine zr_goto X 367 dL_law_359 (by decide) ?_
                refine zr_istore X dL_law_367 (by decide) rfl ?_
                refine zr_iload X dL_law_369 rfl ?_
                refine zr_iload X dL_law_371 rfl ?_
                refine zr_icmp_ge X 381 dL_law_373 (by decide) ⟨by omega, by omega⟩ ⟨by omega, by omega⟩ (fun t_373 => ?_) (fun f_373 => ?_)
                · exact absurd t_373 (by omega)
                · refine zr_iload X dL_law_376 rfl ?_
                  refine zr_goto X 386 dL_law_378 (by decide) ?_
                  refine zr_istore X dL_law_386 (by decide) rfl ?_
                  refine zr_iload X dL_law_388 rfl ?_
                  refine zr_istore X dL_law_390 (by decide) rfl ?_
                  refine zr_iinc X dL_law_392 rfl (by decide) rfl ?_
                  refine zr_goto X 296 dL_law_395 (by decide) ?_
                  refine Wx.weak (lo' := [some (.ref (b)), some (.ref (ad (3, 7))), some (jI 5), some (.ref (ad (4, 0))), some (.ref (ad (4, 1))), some (.ref (ad (4, 2))), some (jI so), some (jI si), some (jI i), none, some (jI a), some (jI (cpL σ q)), some (jI q), some (jI q), some (jI (q + 1)), none]) ⟨rfl, rfl, rfl, rfl, rfl, rfl, rfl, rfl, rfl, rfl, rfl, rfl, rfl, rfl, trivial⟩ ?_
                  exact ih_296 _ _ _ _ (mI_lt hI_296 (by omega) hK (by omega)) (by omega)
            · refine zr_goto X 392 dL_law_347 (by decide) ?_
              refine zr_iinc X dL_law_392 rfl (by decide) rfl ?_
              refine zr_goto X 296 dL_law_395 (by decide) ?_
              refine Wx.weak (lo' := [some (.ref (b)), some (.ref (ad (3, 7))), some (jI 5), some (.ref (ad (4, 0))), some (.ref (ad (4, 1))), some (.ref (ad (4, 2))), some (jI so), some (jI si), some (jI i), none, some (jI a), some (jI x), some (jI y), some (jI o), some (jI (q + 1)), none]) ⟨rfl, rfl, rfl, rfl, rfl, rfl, rfl, rfl, rfl, rfl, rfl, rfl, rfl, rfl, trivial⟩ ?_
              first | exact ih_296 _ _ _ _ (mI_no hI_296 (by omega) (fun g => absurd g.1 (ite0 t_311)) (fun g => absurd g.1 (ite0 t_311)) (fun g => absurd g.1 (ite0 t_311))) (by omega) | exact ih_296 _ _ _ _ (mI_no hI_296 (by omega) (fun g => absurd (ite11 f_322) g.2) (fun g => absurd (ite11 f_322) g.2) (fun g => absurd (ite11 f_322) g.2)) (by omega) | exact ih_296 _ _ _ _ (mI_no hI_296 (by omega) (fun _ => by omega) (fun _ => by omega) (fun _ => by omega)) (by omega)
          · refine zr_goto X 392 dL_law_325 (by decide) ?_
            refine zr_iinc X dL_law_392 rfl (by decide) rfl ?_
            refine zr_goto X 296 dL_law_395 (by decide) ?_
            refine Wx.weak (lo' := [some (.ref (b)), some (.ref (ad (3, 7))), some (jI 5), some (.ref (ad (4, 0))), some (.ref (ad (4, 1))), some (.ref (ad (4, 2))), some (jI so), some (jI si), some (jI i), none, some (jI a), some (jI x), some (jI y), some (jI o), some (jI (q + 1)), none]) ⟨rfl, rfl, rfl, rfl, rfl, rfl, rfl, rfl, rfl, rfl, rfl, rfl, rfl, rfl, trivial⟩ ?_
            first | exact ih_296 _ _ _ _ (mI_no hI_296 (by omega) (fun g => absurd g.1 (ite0 t_311)) (fun g => absurd g.1 (ite0 t_311)) (fun g => absurd g.1 (ite0 t_311))) (by omega) | exact ih_296 _ _ _ _ (mI_no hI_296 (by omega) (fun g => absurd (ite11 f_322) g.2) (fun g => absurd (ite11 f_322) g.2) (fun g => absurd (ite11 f_322) g.2)) (by omega) | exact ih_296 _ _ _ _ (mI_no hI_296 (by omega) (fun _ => by omega) (fun _ => by omega) (fun _ => by omega)) (by omega)
  refine Wx.weak (lo' := [some (.ref (b)), some (.ref (ad (3, 7))), some (jI 5), some (.ref (ad (4, 0))), some (.ref (ad (4, 1))), some (.ref (ad (4, 2))), some (jI so), some (jI si), some (jI i), none, some (jI a), some (jI 2147483647), some (jI (-1)), some (jI 0), some (jI 0), none]) ⟨rfl, rfl, rfl, rfl, rfl, rfl, rfl, rfl, rfl, rfl, rfl, rfl, rfl, rfl, trivial⟩ ?_
  exact loop_296 _ _ _ _ _ mI_0 (Nat.lt_succ_self _)

set_option maxHeartbeats 4000000 in
set_option maxRecDepth 100000 in
theorem law_ask (Z : LAt l p s m args meth c cL_law 16 D cs ad A b L xs) {a x y o : Int} (HE : LE σ so si x y o) (ha : 0 ≤ a ∧ a < 7) (hk : k + 80 ≤ 600130 ∧ n + 480 ≤ 7301080) (kk : ∀ τ : Mem, LI τ so si → Wx p l e room_1 s m args below meth c D cs idsA ad A s.heap 16 Q (k + 72) (n + 432) τ 515 [some (.ref (b)), some (.ref (ad (3, 7))), some (jI 5), some (.ref (ad (4, 0))), some (.ref (ad (4, 1))), some (.ref (ad (4, 2))), some (jI so), some (jI si), some (jI i), none, none, none, none, none, none, none] []) : Wx p l e room_1 s m args below meth c D cs idsA ad A s.heap 16 Q (k) (n) σ 398 [some (.ref (b)), some (.ref (ad (3, 7))), some (jI 5), some (.ref (ad (4, 0))), some (.ref (ad (4, 1))), some (.ref (ad (4, 2))), some (jI so), some (jI si), some (jI i), none, some (jI a), some (jI x), some (jI y), some (jI o), none, none] [] := by
  obtain ⟨X, K, hZ, hA, hX, hbl, hbA, hL, hl⟩ := Z
  have hap := K.2.1
  have hapM := ap_M hap
  have H := HE.1
  have hs := H.2.2.1
  have ht := H.2.2.2.1
  have hst := H.2.2.2.2
  have h00 := H.1.2.1
  have h01 := H.1.2.2.1
  have en : ∀ {τ : Mem}, keepQ σ τ → (τ (6, 8) 0 = so ∧ τ (6, 9) 0 = si) ∧ τ (0, 0) 0 = 5 ∧ τ (0, 1) 0 = 7 := fun k_ => ⟨⟨by rw [k_.2.2.1]; exact H.2.1.1, by rw [k_.2.2.2]; exact H.2.1.2⟩, by rw [k_.1 0 0 (by decide)]; exact h00, by rw [k_.1 0 1 (by decide)]; exact h01⟩
  have hAr := (q_A HE).1.1
  have hOr := (q_O HE).1.1
  have hxr : 0 ≤ x ∧ x ≤ 80000000 := by
    have := n5_cp (LI_n5 H) (bt y)
    rw [(q_A HE).2] at this
    exact this
  refine zr_aloadn X dL_law_398 rfl ?_
  refine zr_lcallI X K hZ hA (As := []) (st := []) (c_X6_maximum l D cs ad (ap_F hap) hl (σ := σ) H.1.1) ⟨tw_378, tw_379, tw_380, tw_1, tw_381⟩ dc_P_maximum rfl rfl rfl (Nat.le_of_ble_eq_true rfl) ⟨Nat.le_of_ble_eq_true rfl, Nat.le_of_ble_eq_true rfl⟩ ⟨by show k + 8 ≤ 600130; omega, by show n + 48 ≤ 7301080; omega⟩ dL_law_399 (fun z τ h k_ => h.2.1.1 4 k_ (by decide)) (fun E h => by have h1 : σ (6, 8) 0 = -1 := h.2.1; have h2 := (H.2.1).1; omega) ?_
  intro z1 τ1 hp1
  have f1 := hp1.1
  have k1 : keepQ σ τ1 := hp1.2.1
  have e1 := en k1
  have g1 : z1 = x := q_max HE keepQ.rf hp1.2.2.2
  refine zr_iload X dL_law_402 rfl ?_
  refine zr_icmp_ne X 447 dL_law_404 (by decide) ⟨by omega, by omega⟩ ⟨by omega, by omega⟩ (fun t_404 => ?_) (fun f_404 => ?_)
  · exact absurd g1 t_404
  · refine zr_aloadn X dL_law_407 rfl ?_
    refine zr_lcallI X K hZ hA (As := []) (st := []) (c_X6_smallestCut l D cs ad (ap_F hap) hl (σ := τ1) f1) ⟨tw_475, tw_476, tw_477, tw_1, tw_478⟩ dc_P_smallestCut rfl rfl rfl (Nat.le_of_ble_eq_true rfl) ⟨Nat.le_of_ble_eq_true rfl, Nat.le_of_ble_eq_true rfl⟩ ⟨by show k + 8 + 8 ≤ 600130; omega, by show n + 48 + 48 ≤ 7301080; omega⟩ dL_law_408 (fun z τ h k_ => h.2.1.1 4 k_ (by decide)) (fun E h => by have h1 : τ1 (6, 8) 0 = -1 := h.2.1; have h2 := (e1.1).1; omega) ?_
    intro z2 τ2 hp2
    have f2 := hp2.1
    have k2 : keepQ σ τ2 := k1.tr hp2.2.1
    have e2 := en k2
    have g2 : z2 = y := q_sm HE k1 hp2.2.2.2
    show Wx p l e room_1 s m args below meth c D cs idsA ad A s.heap 16 Q (k + 16) (n + 96) τ2 411 [some (.ref (b)), some (.ref (ad (3, 7))), some (jI 5), some (.ref (ad (4, 0))), some (.ref (ad (4, 1))), some (.ref (ad (4, 2))), some (jI so), some (jI si), some (jI i), none, some (jI a), some (jI x), some (jI y), some (jI o), none, none] [(jI z2)]
    refine zr_iload X dL_law_411 rfl ?_
    refine zr_icmp_ne X 447 dL_law_413 (by decide) ⟨by omega, by omega⟩ ⟨by omega, by omega⟩ (fun t_413 => ?_) (fun f_413 => ?_)
    · exact absurd g2 t_413
    · refine zr_aloadn X dL_law_416 rfl ?_
      refine zr_lcallI X K hZ hA (As := []) (st := []) (c_X6_greatestCut l D cs ad (ap_F hap) hl (σ := τ2) f2) ⟨tw_492, tw_493, tw_494, tw_1, tw_495⟩ dc_P_greatestCut rfl rfl rfl (Nat.le_of_ble_eq_true rfl) ⟨Nat.le_of_ble_eq_true rfl, Nat.le_of_ble_eq_true rfl⟩ ⟨by show k + 16 + 8 ≤ 600130; omega, by show n + 96 + 48 ≤ 7301080; omega⟩ dL_law_417 (fun z τ h k_ => h.2.1.1 4 k_ (by decide)) (fun E h => by have h1 : τ2 (6, 8) 0 = -1 := h.2.1; have h2 := (e2.1).1; omega) ?_
      intro z3 τ3 hp3
      have f3 := hp3.1
      have k3 : keepQ σ τ3 := k2.tr hp3.2.1
      have e3 := en k3
      have g3 : z3 = o := q_gt HE k2 hp3.2.2.2
      show Wx p l e room_1 s m args below meth c D cs idsA ad A s.heap 16 Q (k + 24) (n + 144) τ3 420 [some (.ref (b)), some (.ref (ad (3, 7))), some (jI 5), some (.ref (ad (4, 0))), some (.ref (ad (4, 1))), some (.ref (ad (4, 2))), some (jI so), some (jI si), some (jI i), none, some (jI a), some (jI x), some (jI y), some (jI o), none, none] [(jI z3)]
      refine zr_iload X dL_law_420 rfl ?_
      refine zr_icmp_ne X 447 dL_law_422 (by decide) ⟨by omega, by omega⟩ ⟨by omega, by omega⟩ (fun t_422 => ?_) (fun f_422 => ?_)
      · exact absurd g3 t_422
      · refine zr_aloadn X dL_law_425 rfl ?_
        refine zr_iload X dL_law_426 rfl ?_
        refine zr_lcallI X K hZ hA (As := [(jI y)]) (st := []) (c_X6_cutCapacity l D cs ad (ap_F hap) hl (σ := τ3) f3 (m := y) ⟨by omega, by omega⟩) ⟨tw_454, tw_455, tw_456, tw_1, tw_457⟩ dc_P_cutCapacity rfl rfl rfl (Nat.le_of_ble_eq_true rfl) ⟨Nat.le_of_ble_eq_true rfl, Nat.le_of_ble_eq_true rfl⟩ ⟨by show k + 24 + 8 ≤ 600130; omega, by show n + 144 + 48 ≤ 7301080; omega⟩ dL_law_428 (fun z τ h k_ => by rw [h.1]) (fun E h => by have h2 := (e3).1.1; rcases h with ⟨-, h⟩ | ⟨-, -, h⟩ <;> first | exact h (q_cut HE k3 (q_A HE).1) | (have h1 : τ3 (6, 8) 0 = -1 := h.1; omega)) ?_
        intro z_ τ_ hp_
        obtain ⟨hp_1, -, -, hp_2⟩ := hp_
        subst τ_
        have hc_y : z_ = x := by rw [hp_2, q_cp HE k3]; exact (q_A HE).2
        show Wx p l e room_1 s m args below meth c D cs idsA ad A s.heap 16 Q (k + 32) (n + 192) τ3 431 [some (.ref (b)), some (.ref (ad (3, 7))), some (jI 5), some (.ref (ad (4, 0))), some (.ref (ad (4, 1))), some (.ref (ad (4, 2))), some (jI so), some (jI si), some (jI i), none, some (jI a), some (jI x), some (jI y), some (jI o), none, none] [(jI z_)]
        refine zr_iload X dL_law_431 rfl ?_
        refine zr_icmp_ne X 447 dL_law_433 (by decide) ⟨by omega, by omega⟩ ⟨by omega, by omega⟩ (fun t_433 => ?_) (fun f_433 => ?_)
        · exact absurd hc_y t_433
        · refine zr_aloadn X dL_law_436 rfl ?_
          refine zr_iload X dL_law_437 rfl ?_
          refine zr_lcallI X K hZ hA (As := [(jI o)]) (st := []) (c_X6_cutCapacity l D cs ad (ap_F hap) hl (σ := τ3) f3 (m := o) ⟨by omega, by omega⟩) ⟨tw_454, tw_455, tw_456, tw_1, tw_457⟩ dc_P_cutCapacity rfl rfl rfl (Nat.le_of_ble_eq_true rfl) ⟨Nat.le_of_ble_eq_true rfl, Nat.le_of_ble_eq_true rfl⟩ ⟨by show k + 32 + 8 ≤ 600130; omega, by show n + 192 + 48 ≤ 7301080; omega⟩ dL_law_439 (fun z τ h k_ => by rw [h.1]) (fun E h => by have h2 := (e3).1.1; rcases h with ⟨-, h⟩ | ⟨-, -, h⟩ <;> first | exact h (q_cut HE k3 (q_O HE).1) | (have h1 : τ3 (6, 8) 0 = -1 := h.1; omega)) ?_
          intro z_ τ_ hp_
          obtain ⟨hp_1, -, -, hp_2⟩ := hp_
          subst τ_
          have hc_o : z_ = x := by rw [hp_2, q_cp HE k3]; exact (q_O HE).2
          show Wx p l e room_1 s m args below meth c D cs idsA ad A s.heap 16 Q (k + 40) (n + 240) τ3 442 [some (.ref (b)), some (.ref (ad (3, 7))), some (jI 5), some (.ref (ad (4, 0))), some (.ref (ad (4, 1))), some (.ref (ad (4, 2))), some (jI so), some (jI si), some (jI i), none, some (jI a), some (jI x), some (jI y), some (jI o), none, none] [(jI z_)]
          refine zr_iload X dL_law_442 rfl ?_
          refine zr_icmp_eq X 449 dL_law_444 (by decide) ⟨by omega, by omega⟩ ⟨by omega, by omega⟩ (fun t_444 => ?_) (fun f_444 => ?_)
          · refine zr_aloadn X dL_law_449 rfl ?_
            refine zr_iload X dL_law_450 rfl ?_
            refine zr_lcallI X K hZ hA (As := [(jI a)]) (st := []) (c_X6_leastFlow l D cs ad (ap_F hap) hl (σ := τ3) f3 (a := a) ⟨by omega, by omega⟩) ⟨tw_434, tw_435, tw_436, tw_1, tw_437⟩ dc_P_leastFlow rfl rfl rfl (Nat.le_of_ble_eq_true rfl) ⟨Nat.le_of_ble_eq_true rfl, Nat.le_of_ble_eq_true rfl⟩ ⟨by show k + 40 + 8 ≤ 600130; omega, by show n + 240 + 48 ≤ 7301080; omega⟩ dL_law_452 (fun z τ h k_ => h.2.1.1 4 k_ (by decide)) (fun E h => by have h2 := (e3).1.1; have h3 := (e3).2.2; rcases h with ⟨-, h⟩ | ⟨-, -, h⟩ <;> first | omega | (have h1 : τ3 (6, 8) 0 = -1 := h.1; omega)) ?_
            intro z4 τ4 hp4
            have f4 := hp4.1
            have k4 : keepQ σ τ4 := k3.tr hp4.2.1
            have e4 := en k4
            show Wx p l e room_1 s m args below meth c D cs idsA ad A s.heap 16 Q (k + 48) (n + 288) τ4 455 [some (.ref (b)), some (.ref (ad (3, 7))), some (jI 5), some (.ref (ad (4, 0))), some (.ref (ad (4, 1))), some (.ref (ad (4, 2))), some (jI so), some (jI si), some (jI i), none, some (jI a), some (jI x), some (jI y), some (jI o), none, none] [(jI z4)]
            refine zr_istore X dL_law_455 (by decide) rfl ?_
            refine zr_aloadn X dL_law_457 rfl ?_
            refine zr_iload X dL_law_458 rfl ?_
            refine zr_lcallI X K hZ hA (As := [(jI a)]) (st := []) (c_X6_greatestFlow l D cs ad (ap_F hap) hl (σ := τ4) f4 (a := a) ⟨by omega, by omega⟩) ⟨tw_449, tw_450, tw_451, tw_1, tw_452⟩ dc_P_greatestFlow rfl rfl rfl (Nat.le_of_ble_eq_true rfl) ⟨Nat.le_of_ble_eq_true rfl, Nat.le_of_ble_eq_true rfl⟩ ⟨by show k + 48 + 8 ≤ 600130; omega, by show n + 288 + 48 ≤ 7301080; omega⟩ dL_law_460 (fun z τ h k_ => h.2.1.1 4 k_ (by decide)) (fun E h => by have h2 := (e4).1.1; have h3 := (e4).2.2; rcases h with ⟨-, h⟩ | ⟨-, -, h⟩ <;> first | omega | (have h1 : τ4 (6, 8) 0 = -1 := h.1; omega)) ?_
            intro z5 τ5 hp5
            have f5 := hp5.1
            have k5 : keepQ σ τ5 := k4.tr hp5.2.1
            have e5 := en k5
            have g5 := q_flow HE ha k3 k4 hp4.2.2.2.2 hp5.2.2.2.2
            have r5 : τ5 (4, 2) a = σ (4, 2) a := congrFun (k5.1 4 2 (by decide)) a
            have r6 := (LI_pre H a ha.1 ha.2).2.2
            show Wx p l e room_1 s m args below meth c D cs idsA ad A s.heap 16 Q (k + 56) (n + 336) τ5 463 [some (.ref (b)), some (.ref (ad (3, 7))), some (jI 5), some (.ref (ad (4, 0))), some (.ref (ad (4, 1))), some (.ref (ad (4, 2))), some (jI so), some (jI si), some (jI i), none, some (jI a), some (jI x), some (jI y), some (jI o), some (jI z4), none] [(jI z5)]
            refine zr_istore X dL_law_463 (by decide) rfl ?_
            refine zr_iload X dL_law_465 rfl ?_
            refine zr_if_lt X 513 dL_law_467 (by decide) ⟨by omega, by omega⟩ (fun t_467 => ?_) (fun f_467 => ?_)
            · exact absurd t_467 (by omega)
            · refine zr_iload X dL_law_470 rfl ?_
              refine zr_iload X dL_law_472 rfl ?_
              refine zr_icmp_gt X 513 dL_law_474 (by decide) ⟨by omega, by omega⟩ ⟨by omega, by omega⟩ (fun t_474 => ?_) (fun f_474 => ?_)
              · exact absurd t_474 (by omega)
              · refine zr_iload X dL_law_477 rfl ?_
                refine zr_aload X dL_law_479 rfl ?_
                refine zr_iload X dL_law_481 rfl ?_
                refine zr_iald X K (n := 7) mA_2 rfl (by decide) (by omega) dL_law_483 ?_
                refine zr_icmp_gt X 513 dL_law_484 (by decide) ⟨by omega, by omega⟩ ⟨by omega, by omega⟩ (fun t_484 => ?_) (fun f_484 => ?_)
                · exact absurd t_484 (by omega)
                · refine zr_aloadn X dL_law_487 rfl ?_
                  refine zr_iload X dL_law_488 rfl ?_
                  refine zr_iload X dL_law_490 rfl ?_
                  refine zr_lcallI X K hZ hA (As := [(jI a), (jI z5)]) (st := []) (c_X6_maximumWith l D cs ad (ap_F hap) hl (σ := τ5) f5 (a := a) (c := z5) ⟨by omega, by omega⟩ ⟨by omega, by omega⟩) ⟨tw_415, tw_416, tw_417, tw_1, tw_418⟩ dc_P_maximumWith rfl rfl rfl (Nat.le_of_ble_eq_true rfl) ⟨Nat.le_of_ble_eq_true rfl, Nat.le_of_ble_eq_true rfl⟩ ⟨by show k + 56 + 8 ≤ 600130; omega, by show n + 336 + 48 ≤ 7301080; omega⟩ dL_law_492 (fun z τ h k_ => h.2.1.1 4 k_ (by decide)) (fun E h => by have h2 := (e5).1.1; have h3 := (e5).2.2; rcases h with ⟨-, h⟩ | ⟨-, -, h⟩ | ⟨-, -, -, h⟩ <;> first | omega | (have h1 : τ5 (6, 8) 0 = -1 := h.1; omega)) ?_
                  intro z6 τ6 hp6
                  have f6 := hp6.1
                  have k6 : keepQ σ τ6 := k5.tr hp6.2.1
                  have e6 := en k6
                  have g6 : z6 = x := q_with HE ha k4 k5 hp5.2.2.2.2 hp6.2.2.2.2.2
                  show Wx p l e room_1 s m args below meth c D cs idsA ad A s.heap 16 Q (k + 64) (n + 384) τ6 495 [some (.ref (b)), some (.ref (ad (3, 7))), some (jI 5), some (.ref (ad (4, 0))), some (.ref (ad (4, 1))), some (.ref (ad (4, 2))), some (jI so), some (jI si), some (jI i), none, some (jI a), some (jI x), some (jI y), some (jI o), some (jI z4), some (jI z5)] [(jI z6)]
                  refine zr_iload X dL_law_495 rfl ?_
                  refine zr_icmp_ne X 513 dL_law_497 (by decide) ⟨by omega, by omega⟩ ⟨by omega, by omega⟩ (fun t_497 => ?_) (fun f_497 => ?_)
                  · exact absurd g6 t_497
                  · refine zr_aloadn X dL_law_500 rfl ?_
                    refine zr_iload X dL_law_501 rfl ?_
                    refine zr_iload X dL_law_503 rfl ?_
                    refine zr_lcallI X K hZ hA (As := [(jI so), (jI si)]) (st := []) (c_X6_maximumBetween l D cs ad (ap_F hap) hl (σ := τ6) f6 (s := so) (t := si) ⟨by omega, by omega⟩ ⟨by omega, by omega⟩) ⟨tw_430, tw_431, tw_432, tw_1, tw_433⟩ dc_P_maximumBetween rfl rfl rfl (Nat.le_of_ble_eq_true rfl) ⟨Nat.le_of_ble_eq_true rfl, Nat.le_of_ble_eq_true rfl⟩ ⟨by show k + 64 + 8 ≤ 600130; omega, by show n + 384 + 48 ≤ 7301080; omega⟩ dL_law_505 (fun z τ h k_ => h.2.1.1 4 k_ (by decide)) (fun E h => by have h3 := (e6).2.1; rcases h with ⟨-, h⟩ | ⟨-, -, -, h⟩ <;> omega) ?_
                    intro z7 τ7 hp7
                    have f7 := hp7.1
                    have k7 : keepQ σ τ7 := k6.tr hp7.2.1
                    have e7 := en k7
                    have g7 : z7 = x := q_bw HE k6 hp7.2.2.2
                    show Wx p l e room_1 s m args below meth c D cs idsA ad A s.heap 16 Q (k + 72) (n + 432) τ7 508 [some (.ref (b)), some (.ref (ad (3, 7))), some (jI 5), some (.ref (ad (4, 0))), some (.ref (ad (4, 1))), some (.ref (ad (4, 2))), some (jI so), some (jI si), some (jI i), none, some (jI a), some (jI x), some (jI y), some (jI o), some (jI z4), some (jI z5)] [(jI z7)]
                    refine zr_iload X dL_law_508 rfl ?_
                    refine zr_icmp_eq X 515 dL_law_510 (by decide) ⟨by omega, by omega⟩ ⟨by omega, by omega⟩ (fun t_510 => ?_) (fun f_510 => ?_)
                    · exact Wx.weak (lo' := [some (.ref (b)), some (.ref (ad (3, 7))), some (jI 5), some (.ref (ad (4, 0))), some (.ref (ad (4, 1))), some (.ref (ad (4, 2))), some (jI so), some (jI si), some (jI i), none, none, none, none, none, none, none]) ⟨rfl, rfl, rfl, rfl, rfl, rfl, rfl, rfl, rfl, trivial⟩ (kk _ (LI_q H k7 f7))
                    · exact absurd g7 f_510
          · exact absurd hc_o f_444

end BODY

