/-! THE LAW LAYS THE NETWORK -/
/-- what holds all the law long -/
def LAt (l : Launch) (p : Program) (s : State) (m : MethodId) (args : Array Value) (meth : Method) (c : Code) (cc : ByteArray) (nL : Nat) (D : va_G) (cs : Nat → ClassId) (ad : Ix → Nat) (A : Nat → Prop) (b L : Nat) (xs : Nat → Int32) : Prop :=
  Cx p s m args meth c cc nL "FlowNetworkLaw" ∧ Kx D cs idsA ad A s ∧ Zx A s ∧ (∀ q, s.heap.size ≤ q → A q) ∧ va_X b L xs s s.heap ∧ b < s.heap.size ∧ ¬ A b ∧ L ≤ 260 ∧ l.stackTraces = false
section BLD
variable {p : Program} {l : Launch} {e : Env} {s : State} {m : MethodId} {args : Array Value} {below : List Frame} {meth : Method} {c : Code} {D : va_G} {cs : Nat → ClassId} {ad : Ix → Nat} {A : Nat → Prop} {Q : State → Prop} {b L : Nat} {xs : Nat → Int32} {k n : Nat}

set_option maxHeartbeats 4000000 in
set_option maxRecDepth 100000 in
theorem bld_node (Z : LAt l p s m args meth c cL_build 10 D cs ad A b L xs) {σ : Mem} {i : Int} (hi : 0 ≤ i ∧ i ≤ 5) (I : bN σ i) (hk : i < 5 → k + 8 ≤ 112 ∧ n + 48 ≤ 672) (kx : i = 5 → Wx p l e (rmm 8 112 672) s m args below meth c D cs idsA ad A s.heap 10 Q (k) (n) σ 26 [some (.ref (ad (3, 7))), some (.ref (b)), some (jI 0), some (jI 5), some (.ref (ad (4, 0))), some (.ref (ad (4, 1))), some (.ref (ad (4, 2))), some (jI 7), some (jI i), none] []) (kk : i < 5 → ∀ τ, bN τ (i + 1) → Wx p l e (rmm 8 112 672) s m args below meth c D cs idsA ad A s.heap 10 Q (k + 8) (n + 48) τ 3 [some (.ref (ad (3, 7))), some (.ref (b)), some (jI 0), some (jI 5), some (.ref (ad (4, 0))), some (.ref (ad (4, 1))), some (.ref (ad (4, 2))), some (jI 7), some (jI (i + 1)), none] []) : Wx p l e (rmm 8 112 672) s m args below meth c D cs idsA ad A s.heap 10 Q (k) (n) σ 3 [some (.ref (ad (3, 7))), some (.ref (b)), some (jI 0), some (jI 5), some (.ref (ad (4, 0))), some (.ref (ad (4, 1))), some (.ref (ad (4, 2))), some (jI 7), some (jI i), none] [] := by
  obtain ⟨X, K, hZ, hA, hX, hbl, hbA, hL, hl⟩ := Z
  have hap := K.2.1
  have hapM := ap_M hap
  refine zr_iload X dL_build_3 rfl ?_
  refine zr_iloadn X dL_build_5 rfl ?_
  refine zr_icmp_ge X 26 dL_build_6 (by decide) ⟨by omega, by omega⟩ ⟨by omega, by omega⟩ (fun t_6 => ?_) (fun f_6 => ?_)
  · exact Wx.weak (lo' := [some (.ref (ad (3, 7))), some (.ref (b)), some (jI 0), some (jI 5), some (.ref (ad (4, 0))), some (.ref (ad (4, 1))), some (.ref (ad (4, 2))), some (jI 7), some (jI i), none]) ⟨rfl, rfl, rfl, rfl, rfl, rfl, rfl, rfl, rfl, trivial⟩ (kx (by omega))
  · have hk := hk (by omega)
    refine zr_aloadn X dL_build_9 rfl ?_
    refine zr_lcallI X K hZ hA (As := []) (st := []) (c_X6_addNode l D cs ad (ap_F hap) hl (σ := σ) I.1) ⟨tw_512, tw_513, tw_514, tw_1, tw_515⟩ dc_P_addNode rfl rfl rfl (Nat.le_of_ble_eq_true rfl) ⟨Nat.le_of_ble_eq_true rfl, Nat.le_of_ble_eq_true rfl⟩ ⟨by show k + 8 ≤ 112; omega, by show n + 48 ≤ 672; omega⟩ dL_build_10 (fun z τ h k_ => h.2.2.1.1 (4, k_) (by simp)) (fun E h => by have := h.2; have := I.2.2.1; omega) ?_
    intro z τ hp
    have hz : z = i := hp.2.2.2.trans I.2.2.1
    have I1 := bN_step I hp.1 hp.2.2.1
    refine zr_iload X dL_build_13 rfl ?_
    refine zr_icmp_eq X 20 dL_build_15 (by decide) ⟨by omega, by omega⟩ ⟨by omega, by omega⟩ (fun t_15 => ?_) (fun f_15 => ?_)
    · refine zr_iinc X dL_build_20 rfl (by decide) rfl ?_
      refine zr_goto X 3 dL_build_23 (by decide) ?_
      exact Wx.weak (lo' := [some (.ref (ad (3, 7))), some (.ref (b)), some (jI 0), some (jI 5), some (.ref (ad (4, 0))), some (.ref (ad (4, 1))), some (.ref (ad (4, 2))), some (jI 7), some (jI (i + 1)), none]) ⟨rfl, rfl, rfl, rfl, rfl, rfl, rfl, rfl, rfl, trivial⟩ (kk (by omega) _ I1)
    · exact absurd hz f_15

set_option maxHeartbeats 4000000 in
set_option maxRecDepth 100000 in
theorem bld_nodes (Z : LAt l p s m args meth c cL_build 10 D cs ad A b L xs) (fin : ∀ σ, bN σ 5 → Wx p l e (rmm 8 112 672) s m args below meth c D cs idsA ad A s.heap 10 Q (40) (240) σ 26 [some (.ref (ad (3, 7))), some (.ref (b)), some (jI 0), some (jI 5), some (.ref (ad (4, 0))), some (.ref (ad (4, 1))), some (.ref (ad (4, 2))), some (jI 7), some (jI 5), none] []) : ∀ (t j : Nat) (σ : Mem), bN σ j → j ≤ 5 → 5 - j < t → Wx p l e (rmm 8 112 672) s m args below meth c D cs idsA ad A s.heap 10 Q (8 * j) (48 * j) σ 3 [some (.ref (ad (3, 7))), some (.ref (b)), some (jI 0), some (jI 5), some (.ref (ad (4, 0))), some (.ref (ad (4, 1))), some (.ref (ad (4, 2))), some (jI 7), some (jI ((j : Int))), none] [] := by
  intro t
  induction t with
  | zero => exact fun j σ _ _ h => absurd h (Nat.not_lt_zero _)
  | succ t ih =>
    intro j σ I hj ht
    refine bld_node Z ⟨by omega, by omega⟩ I (fun h => ⟨by omega, by omega⟩) (fun h => ?_) (fun h τ I1 => ?_)
    · have e : j = 5 := by omega
      subst e
      exact fin σ I
    · have := ih (j + 1) τ (by rw [show ((j + 1 : Nat) : Int) = (j : Int) + 1 by omega]; exact I1) (by omega) (by omega)
      rw [show 8 * (j + 1) = 8 * j + 8 by omega, show 48 * (j + 1) = 48 * j + 48 by omega, show ((j + 1 : Nat) : Int) = (j : Int) + 1 by omega] at this
      exact this

set_option maxHeartbeats 4000000 in
set_option maxRecDepth 100000 in
theorem bld_arc (Z : LAt l p s m args meth c cL_build 10 D cs ad A b L xs) {σ : Mem} {i : Int} (hi : 0 ≤ i ∧ i ≤ 7) (I : bA σ i) (hk : i < 7 → k + 8 ≤ 112 ∧ n + 48 ≤ 672) (kx : i = 7 → k ≤ 112 → n ≤ 672 → Wx p l e (rmm 8 112 672) s m args below meth c D cs idsA ad A s.heap 10 Q (k) (n) σ 132 [some (.ref (ad (3, 7))), some (.ref (b)), some (jI 0), some (jI 5), some (.ref (ad (4, 0))), some (.ref (ad (4, 1))), some (.ref (ad (4, 2))), some (jI 7), some (jI i), none] []) (kk : i < 7 → ∀ τ, bA τ (i + 1) → Wx p l e (rmm 8 112 672) s m args below meth c D cs idsA ad A s.heap 10 Q (k + 8) (n + 48) τ 29 [some (.ref (ad (3, 7))), some (.ref (b)), some (jI 0), some (jI 5), some (.ref (ad (4, 0))), some (.ref (ad (4, 1))), some (.ref (ad (4, 2))), some (jI 7), some (jI (i + 1)), none] []) (hkx : k ≤ 112 ∧ n ≤ 672) : Wx p l e (rmm 8 112 672) s m args below meth c D cs idsA ad A s.heap 10 Q (k) (n) σ 29 [some (.ref (ad (3, 7))), some (.ref (b)), some (jI 0), some (jI 5), some (.ref (ad (4, 0))), some (.ref (ad (4, 1))), some (.ref (ad (4, 2))), some (jI 7), some (jI i), none] [] := by
  obtain ⟨X, K, hZ, hA, hX, hbl, hbA, hL, hl⟩ := Z
  have hap := K.2.1
  have hapM := ap_M hap
  refine zr_iload X dL_build_29 rfl ?_
  refine zr_aload X dL_build_31 rfl ?_
  refine zr_alen X K (n := 7) mA_0 rfl dL_build_33 ?_
  refine zr_icmp_ge X 132 dL_build_34 (by decide) ⟨by omega, by omega⟩ ⟨by omega, by omega⟩ (fun t_34 => ?_) (fun f_34 => ?_)
  · exact Wx.weak (lo' := [some (.ref (ad (3, 7))), some (.ref (b)), some (jI 0), some (jI 5), some (.ref (ad (4, 0))), some (.ref (ad (4, 1))), some (.ref (ad (4, 2))), some (jI 7), some (jI i), none]) ⟨rfl, rfl, rfl, rfl, rfl, rfl, rfl, rfl, rfl, trivial⟩ (kx (by omega) hkx.1 hkx.2)
  · have hk := hk (by omega)
    refine zr_aloadn X dL_build_37 rfl ?_
    refine zr_iloadn X dL_build_38 rfl ?_
    refine zr_iload X dL_build_39 rfl ?_
    refine zr_iadd X dL_build_41 ?_
    refine zr_lscr X K hX hbl hbA (As := [(.ref (b)), (jI (0 + i))]) (st := []) (c_L_cell l D cs hL (i := 0 + i) ⟨by omega, by omega⟩) ⟨tw_505, tw_506, tw_0, tw_507⟩ dc_L_cell rfl rfl (Nat.le_of_ble_eq_true rfl) ⟨Nat.le_of_ble_eq_true rfl, Nat.le_of_ble_eq_true rfl⟩ ⟨by show k ≤ 112; omega, by show n ≤ 672; omega⟩ dL_build_42 ?_
    intro cv _
    refine zr_istore X dL_build_45 (by decide) rfl ?_
    refine zr_aload X dL_build_47 rfl ?_
    refine zr_iload X dL_build_49 rfl ?_
    refine zr_iload X dL_build_51 rfl ?_
    refine zr_iloadn X dL_build_53 rfl ?_
    refine zr_lstat X K (As := [(jI cv), (jI 5)]) (st := [(jI i), (.ref (ad (4, 0)))]) (c_L_below l D cs ad hapM (σ := σ) (x := iI (cv)) (n := 5) ⟨by decide, by decide⟩) ⟨tw_501, tw_502, tw_0, tw_503⟩ dc_L_below rfl rfl (Nat.le_of_ble_eq_true rfl) ⟨Nat.le_of_ble_eq_true rfl, Nat.le_of_ble_eq_true rfl⟩ ⟨by show k ≤ 112; omega, by show n ≤ 672; omega⟩ dL_build_54 ?_
    intro t0 h_t0
    refine zr_iast X K (n := 7) mA_0 (fun _ => rfl) rfl (by decide) (by omega) dL_build_57 ?_
    generalize hm_σ1 : mset σ (4, 0) i t0 = σ1
    have r1 : σ1 (4, 0) i = t0 := by rw [← hm_σ1, mset_same]
    refine zr_aload X dL_build_58 rfl ?_
    refine zr_iload X dL_build_60 rfl ?_
    refine zr_aload X dL_build_62 rfl ?_
    refine zr_iload X dL_build_64 rfl ?_
    refine zr_iald X K (n := 7) mA_0 rfl (by decide) (by omega) dL_build_66 ?_
    refine zr_iconst X dL_build_67 ?_
    refine zr_iadd X dL_build_68 ?_
    refine zr_iload X dL_build_69 rfl ?_
    refine zr_iconst X dL_build_71 ?_
    refine zr_ishr X dL_build_72 rfl ?_
    refine zr_iloadn X dL_build_73 rfl ?_
    refine zr_iconst X dL_build_74 ?_
    refine zr_isub X dL_build_75 ?_
    refine zr_lstat X K (As := [(.int (iI cv >>> (iI 4 &&& 31))), (jI (5 - 1))]) (st := [(jI ((σ1 (4, 0) i) + 1)), (jI i), (.ref (ad (4, 1)))]) (c_L_below l D cs ad hapM (σ := σ1) (x := iI cv >>> (iI 4 &&& 31)) (n := 5 - 1) ⟨by decide, by decide⟩) ⟨tw_501, tw_502, tw_0, tw_503⟩ dc_L_below rfl rfl (Nat.le_of_ble_eq_true rfl) ⟨Nat.le_of_ble_eq_true rfl, Nat.le_of_ble_eq_true rfl⟩ ⟨by show k ≤ 112; omega, by show n ≤ 672; omega⟩ dL_build_76 ?_
    intro t1 h_t1
    refine zr_iadd X dL_build_79 ?_
    refine zr_iloadn X dL_build_80 rfl ?_
    refine zr_irem X dL_build_81 (by decide) (zb_rem (x := ((σ1 (4, 0) i) + 1) + t1) (n := 5) ⟨by omega, by omega⟩ ⟨by decide, by decide⟩) ?_
    refine zr_iast X K (n := 7) mA_1 (fun _ => rfl) rfl (by decide) (by omega) dL_build_82 ?_
    generalize hm_σ2 : mset σ1 (4, 1) i ((((σ1 (4, 0) i) + 1) + t1) % 5) = σ2
    refine zr_aload X dL_build_83 rfl ?_
    refine zr_iload X dL_build_85 rfl ?_
    refine zr_iload X dL_build_87 rfl ?_
    refine zr_bipush X dL_build_89 rfl ?_
    refine zr_ishr X dL_build_91 rfl ?_
    refine zr_iload X dL_build_92 rfl ?_
    refine zr_iconst X dL_build_94 ?_
    refine zr_iadd X dL_build_95 ?_
    refine zr_lstat X K (As := [(.int (iI cv >>> (iI 8 &&& 31))), (jI (7 + 1))]) (st := [(jI i), (.ref (ad (4, 2)))]) (c_L_below l D cs ad hapM (σ := σ2) (x := iI cv >>> (iI 8 &&& 31)) (n := 7 + 1) ⟨by decide, by decide⟩) ⟨tw_501, tw_502, tw_0, tw_503⟩ dc_L_below rfl rfl (Nat.le_of_ble_eq_true rfl) ⟨Nat.le_of_ble_eq_true rfl, Nat.le_of_ble_eq_true rfl⟩ ⟨by show k ≤ 112; omega, by show n ≤ 672; omega⟩ dL_build_96 ?_
    intro t2 h_t2
    refine zr_iast X K (n := 7) mA_2 (fun _ => rfl) rfl (by decide) (by omega) dL_build_99 ?_
    generalize hm_σ3 : mset σ2 (4, 2) i t2 = σ3
    have har := ar_of hm_σ1 hm_σ2 hm_σ3
    have hq := ar_pre I har
    obtain ⟨q0, q1, q2⟩ := har.2.1
    refine zr_aloadn X dL_build_100 rfl ?_
    refine zr_aload X dL_build_101 rfl ?_
    refine zr_iload X dL_build_103 rfl ?_
    refine zr_iald X K (n := 7) mA_0 rfl (by decide) (by omega) dL_build_105 ?_
    refine zr_aload X dL_build_106 rfl ?_
    refine zr_iload X dL_build_108 rfl ?_
    refine zr_iald X K (n := 7) mA_1 rfl (by decide) (by omega) dL_build_110 ?_
    refine zr_aload X dL_build_111 rfl ?_
    refine zr_iload X dL_build_113 rfl ?_
    refine zr_iald X K (n := 7) mA_2 rfl (by decide) (by omega) dL_build_115 ?_
    refine zr_lcallI X K hZ hA (As := [(jI (σ3 (4, 0) i)), (jI (σ3 (4, 1) i)), (jI (σ3 (4, 2) i))]) (st := []) (c_X6_addArc l D cs ad (ap_F hap) hl (σ := σ3) hq.1 (s := σ3 (4, 0) i) (t := σ3 (4, 1) i) (c := σ3 (4, 2) i) ⟨by omega, by omega⟩ ⟨by omega, by omega⟩ ⟨by omega, by omega⟩) ⟨tw_521, tw_522, tw_523, tw_1, tw_524⟩ dc_P_addArc rfl rfl rfl (Nat.le_of_ble_eq_true rfl) ⟨Nat.le_of_ble_eq_true rfl, Nat.le_of_ble_eq_true rfl⟩ ⟨by show k + 8 ≤ 112; omega, by show n + 48 ≤ 672; omega⟩ dL_build_116 (fun z τ h k_ => h.2.2.2.1.1 4 k_ (by decide) (by decide) (by decide)) (fun E h => by rcases h with ⟨-, h⟩ | ⟨-, -, -, h⟩ | ⟨-, -, h⟩ <;> omega) ?_
    intro z τ hp
    have hz : z = i := hp.2.2.2.2.trans hq.2.2
    obtain ⟨hp1, -, -, hp2, -⟩ := hp
    rw [har.2.1.1, har.2.1.2.1, har.2.1.2.2] at hp2
    have I1 := bA_step I hi.1 har hp1 hp2
    refine zr_iload X dL_build_119 rfl ?_
    refine zr_icmp_eq X 126 dL_build_121 (by decide) ⟨by omega, by omega⟩ ⟨by omega, by omega⟩ (fun t_121 => ?_) (fun f_121 => ?_)
    · refine zr_iinc X dL_build_126 rfl (by decide) rfl ?_
      refine zr_goto X 29 dL_build_129 (by decide) ?_
      exact Wx.weak (lo' := [some (.ref (ad (3, 7))), some (.ref (b)), some (jI 0), some (jI 5), some (.ref (ad (4, 0))), some (.ref (ad (4, 1))), some (.ref (ad (4, 2))), some (jI 7), some (jI (i + 1)), none]) ⟨rfl, rfl, rfl, rfl, rfl, rfl, rfl, rfl, rfl, trivial⟩ (kk (by omega) _ I1)
    · exact absurd hz f_121

set_option maxHeartbeats 4000000 in
set_option maxRecDepth 100000 in
theorem bld_arcs (Z : LAt l p s m args meth c cL_build 10 D cs ad A b L xs) (fin : ∀ σ, bA σ 7 → Wx p l e (rmm 8 112 672) s m args below meth c D cs idsA ad A s.heap 10 Q (96) (576) σ 132 [some (.ref (ad (3, 7))), some (.ref (b)), some (jI 0), some (jI 5), some (.ref (ad (4, 0))), some (.ref (ad (4, 1))), some (.ref (ad (4, 2))), some (jI 7), some (jI 7), none] []) : ∀ (t j : Nat) (σ : Mem), bA σ j → j ≤ 7 → 7 - j < t → Wx p l e (rmm 8 112 672) s m args below meth c D cs idsA ad A s.heap 10 Q (40 + 8 * j) (240 + 48 * j) σ 29 [some (.ref (ad (3, 7))), some (.ref (b)), some (jI 0), some (jI 5), some (.ref (ad (4, 0))), some (.ref (ad (4, 1))), some (.ref (ad (4, 2))), some (jI 7), some (jI ((j : Int))), none] [] := by
  intro t
  induction t with
  | zero => exact fun j σ _ _ h => absurd h (Nat.not_lt_zero _)
  | succ t ih =>
    intro j σ I hj ht
    refine bld_arc Z ⟨by omega, by omega⟩ I (fun h => ⟨by omega, by omega⟩) (fun h _ _ => ?_) (fun h τ I1 => ?_) ⟨by omega, by omega⟩
    · have e : j = 7 := by omega
      subst e
      exact fin σ I
    · have := ih (j + 1) τ (by rw [show ((j + 1 : Nat) : Int) = (j : Int) + 1 by omega]; exact I1) (by omega) (by omega)
      rw [show 40 + 8 * (j + 1) = 40 + 8 * j + 8 by omega, show 240 + 48 * (j + 1) = 240 + 48 * j + 48 by omega, show ((j + 1 : Nat) : Int) = (j : Int) + 1 by omega] at this
      exact this
end BLD

set_option maxHeartbeats 4000000 in
set_option maxRecDepth 100000 in
theorem c_L_build (l : Launch) (D : va_G) (cs : Nat → ClassId) (ad : Ix → Nat) (hap : Apart idsA ad) (hl : l.stackTraces = false) {σ : Mem} (I : bN σ 0) {b L : Nat} {xs : Nat → Int32} (hL : L ≤ 260) (sz : Nat) : CB l D cs ad yL_build cL_build 10 8 112 672 sz b L xs [(.ref (ad (3, 7))), (.ref (b)), (jI 0), (jI 5), (.ref (ad (4, 0))), (.ref (ad (4, 1))), (.ref (ad (4, 2))), (jI 7)] σ (fun z τ => z = 1 ∧ LI τ 0 4) := by
  refine CB.of hap (by decide) rfl (Nat.le_of_ble_eq_true rfl) ?_
  intro p e s m args below meth c X K hZ hA hX hbl hbA hr
  have Z : LAt l p s m args meth c cL_build 10 D cs ad (RgN idsA ad sz) b L xs := ⟨X, K, hZ, hA, hX, hbl, hbA, hL, hl⟩
  refine zr_iconst X dL_build_0 ?_
  refine zr_istore X dL_build_1 (by decide) rfl ?_
  refine bld_nodes Z (fun σ1 I1 => ?_) 6 0 σ I (by omega) (by omega)
  refine zr_iconst X dL_build_26 ?_
  refine zr_istore X dL_build_27 (by decide) rfl ?_
  refine bld_arcs Z (fun σ2 I2 => ?_) 8 0 σ1 (bA_0 I1) (by omega) (by omega)
  refine zr_aloadn X dL_build_132 rfl ?_
  refine zr_iconst X dL_build_133 ?_
  refine zr_iloadn X dL_build_134 rfl ?_
  refine zr_iconst X dL_build_135 ?_
  refine zr_isub X dL_build_136 ?_
  refine zr_lcallI X K hZ hA (As := [(jI 0), (jI (5 - 1))]) (st := []) (c_X6_setEnds l D cs ad (ap_F hap) hl (σ := σ2) I2.1 (s := 0) (t := 5 - 1) ⟨by decide, by decide⟩ ⟨by decide, by decide⟩) ⟨tw_365, tw_366, tw_367, tw_1, tw_368⟩ dc_P_setEnds rfl rfl rfl (Nat.le_of_ble_eq_true rfl) ⟨Nat.le_of_ble_eq_true rfl, Nat.le_of_ble_eq_true rfl⟩ ⟨by show 96 + 8 ≤ 112; omega, by show 576 + 48 ≤ 672; omega⟩ dL_build_137 (fun z τ h k_ => h.2.1.1 4 k_ (by decide)) (fun E h => by have := I2.2.2.1; rcases h with ⟨-, h⟩ | ⟨-, -, -, h⟩ <;> omega) ?_
  intro z1 τ1 hp1
  have hz1 : z1 = 1 := hp1.2.2.2.2.mpr (fun q => by have q0 := q.1; have q1 : σ2 (6, 8) 0 = -1 := I2.2.1.1; omega)
  refine zr_if_eq X 158 dL_build_140 (by decide) ⟨by omega, by omega⟩ (fun t_140 => ?_) (fun f_140 => ?_)
  · exact absurd t_140 (by omega)
  · refine zr_aloadn X dL_build_143 rfl ?_
    refine zr_iconst X dL_build_144 ?_
    refine zr_iloadn X dL_build_145 rfl ?_
    refine zr_iconst X dL_build_146 ?_
    refine zr_isub X dL_build_147 ?_
    refine zr_lcallI X K hZ hA (As := [(jI 0), (jI (5 - 1))]) (st := []) (c_X6_setEnds l D cs ad (ap_F hap) hl (σ := τ1) hp1.1 (s := 0) (t := 5 - 1) ⟨by decide, by decide⟩ ⟨by decide, by decide⟩) ⟨tw_365, tw_366, tw_367, tw_1, tw_368⟩ dc_P_setEnds rfl rfl rfl (Nat.le_of_ble_eq_true rfl) ⟨Nat.le_of_ble_eq_true rfl, Nat.le_of_ble_eq_true rfl⟩ ⟨by show 96 + 8 + 8 ≤ 112; omega, by show 576 + 48 + 48 ≤ 672; omega⟩ dL_build_148 (fun z τ h k_ => h.2.1.1 4 k_ (by decide)) (fun E h => by have := I2.2.2.1; have e0 : τ1 (0, 0) 0 = σ2 (0, 0) 0 := congrFun (hp1.2.1.1 0 0 (by decide)) 0; rcases h with ⟨-, h⟩ | ⟨-, -, -, h⟩ <;> omega) ?_
    intro z2 τ2 hp2
    have hz2 : z2 = 0 := hp2.2.2.2.1.resolve_right (fun q => hp2.2.2.2.2.mp q ⟨hp1.2.1.2.2.1, hp1.2.1.2.2.2⟩)
    show Wx p l e (rmm 8 112 672) s m args below meth c D cs idsA ad (RgN idsA ad sz) s.heap 10 (MQ below (qXI D cs idsA ad sz (fun z τ => z = 1 ∧ LI τ 0 4)) args s 112 672 (RgN idsA ad sz)) (96 + 16) (576 + 96) τ2 151 [some (.ref (ad (3, 7))), some (.ref (b)), some (jI 0), some (jI 5), some (.ref (ad (4, 0))), some (.ref (ad (4, 1))), some (.ref (ad (4, 2))), some (jI 7), some (jI 7), none] [(jI z2)]
    refine zr_if_ne X 158 dL_build_151 (by decide) ⟨by omega, by omega⟩ (fun t_151 => ?_) (fun f_151 => ?_)
    · exact absurd hz2 t_151
    · refine zr_iconst X dL_build_154 ?_
      refine zr_goto X 159 dL_build_155 (by decide) ?_
      exact zr_bret X ⟨Nat.le_of_ble_eq_true rfl, Nat.le_of_ble_eq_true rfl⟩ hr dL_build_159 (Or.inr rfl) ⟨rfl, LI_0 I2 hp1.2.1 hp2.2.1 hp2.1⟩

