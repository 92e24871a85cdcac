/-! THE LAW'S WORLD: the class's cells, the reference's, the two answers -/
def g45 (σ τ : Mem) : Prop := ∀ g k : Nat, g = 4 ∨ g = 5 → τ (g, k) = σ (g, k)
theorem g45.rf {σ : Mem} : g45 σ σ := fun _ _ _ => rfl
theorem owner_1 : ∀ q : Ix, (owner q).1 = q.1
  | (0, k) => by
    show (owner (0, k)).1 = 0
    unfold owner
    split <;> first | rfl | (rename_i h; cases h; rfl) | simp_all
  | (1, k) => rfl
  | (2, k) => rfl
  | (3, k) => rfl
  | (4, k) => by
    show (owner (4, k)).1 = 4
    unfold owner
    split <;> first | rfl | (rename_i h; cases h; rfl) | simp_all
  | (5, k) => rfl
  | (b + 6, k) => by
    show (owner (b + 6, k)).1 = b + 6
    unfold owner
    split <;> first | rfl | (rename_i h; cases h; rfl) | simp_all
theorem idsF_g : ∀ i ∈ idsF, i.1 ≠ 4 ∧ i.1 ≠ 5 := by decide +kernel
theorem idsM_g : ∀ i ∈ idsM, i.1 = 4 := by decide +kernel
theorem idsO_g : ∀ i ∈ idsO, i.1 = 5 := by decide +kernel
theorem idsF_A : ∀ i ∈ idsF, i ∈ idsA := fun _ h => List.mem_append_left _ h
theorem idsM_A : ∀ i ∈ idsM, i ∈ idsA := fun _ h => List.mem_append_right _ (List.mem_append_left _ h)
theorem idsO_A : ∀ i ∈ idsO, i ∈ idsA := fun _ h => List.mem_append_right _ (List.mem_append_right _ h)
theorem ap_F {ad : Ix → Nat} (h : Apart idsA ad) : Apart idsF ad := fun i hi j hj e => h i (idsF_A i hi) j (idsF_A j hj) e
theorem ap_M {ad : Ix → Nat} (h : Apart idsA ad) : Apart idsM ad := fun i hi j hj e => h i (idsM_A i hi) j (idsM_A j hj) e
/-- behind a call that changes the cells of a part of the world -/
theorem pic_part {D : va_G} {cs : Nat → ClassId} {ad : Ix → Nat} {σ τ : Mem} {H H1 : Heap} {ids : List Ix} {B : Nat → Prop} (hap : Apart idsA ad) (hsub : ∀ i ∈ ids, i ∈ idsA) (hP : Pic D cs idsA ad σ H) (hB : Pic D cs ids ad τ H1) (hk : ∀ q : Nat, q < H.size → ¬ B q → H1[q]? = H[q]?) (hb : ∀ q, B q → Rg ids ad q ∨ H.size ≤ q) (hr : ∀ i ∈ idsA, i ∉ ids → ∀ q, owner q = i → σ q = τ q) : Pic D cs idsA ad τ H1 := fun i hi => by
  by_cases h : i ∈ ids
  · exact hB i h
  · have h1 := hP i hi
    rw [← enc_reads (hr i hi h)]
    refine h1.kept (hk _ h1.lt fun g => ?_)
    rcases hb _ g with ⟨j, hj, e⟩ | g
    · exact h (by rw [← hap j (hsub j hj) i hi e]; exact hj)
    · have := h1.lt
      simp only at this
      omega
theorem pic_up {D : va_G} {cs : Nat → ClassId} {ad : Ix → Nat} {σ τ : Mem} {H H1 : Heap} (hap : Apart idsA ad) (hP : Pic D cs idsA ad σ H) (hB : Pic D cs idsF ad τ H1) (hk : ∀ q : Nat, q < H.size → ¬ RgN idsF ad H.size q → H1[q]? = H[q]?) (h : g45 σ τ) : Pic D cs idsA ad τ H1 :=
  pic_part hap idsF_A hP hB hk (fun _ g => g) fun i hi hn q hq => by
    have hg : i.1 = 4 ∨ i.1 = 5 := by
      rcases List.mem_append.mp hi with g | g
      · exact absurd g hn
      · rcases List.mem_append.mp g with g | g
        · exact Or.inl (idsM_g i g)
        · exact Or.inr (idsO_g i g)
    have := owner_1 q
    rw [hq] at this
    exact (h q.1 q.2 (by rw [← this]; exact hg)).symm
theorem pic_upM {D : va_G} {cs : Nat → ClassId} {ad : Ix → Nat} {σ τ : Mem} {H H1 : Heap} (hap : Apart idsA ad) (hP : Pic D cs idsA ad σ H) (hB : Pic D cs idsM ad τ H1) (hk : ∀ q : Nat, q < H.size → ¬ Rg idsM ad q → H1[q]? = H[q]?) (h : g4 σ τ) : Pic D cs idsA ad τ H1 :=
  pic_part hap idsM_A hP hB hk (fun _ g => Or.inl g) fun i hi hn q hq => by
    have hg : i.1 ≠ 4 := by
      rcases List.mem_append.mp hi with g | g
      · exact (idsF_g i g).1
      · rcases List.mem_append.mp g with g | g
        · exact absurd g hn
        · rw [idsO_g i g]; decide
    have := owner_1 q
    rw [hq] at this
    exact (h q.1 q.2 (by rw [← this]; exact hg)).symm
theorem Zx_to {A B : Nat → Prop} {s U : State} {H : Heap} {locs : List Loc} (hZ : Zx A s) (hS : va_S A s.heap H locs) (hU : U.heap = H) (hW : s.WarmedH U.vm) (hB : ∀ q, B q → A q) : Zx B U := by
  unfold Zx
  rw [hU]
  exact ⟨((hZ.1.moved hW.alike).kept (fun a h1 h2 => hS.2.1 a h1 h2)).narrow hB, ((hZ.2.moved hW.alike).kept (fun a h1 h2 => hS.2.1 a h1 h2)).narrow hB⟩
/-- which handler takes an exception that is thrown at pc -/
def Hd (hh : List (Nat × Nat × Nat × Nat)) (pc : Nat) (E : String) (tgt : Nat) : Prop := Cond.castable E E ∈ NW ∧ ∃ (pre : List (Nat × Nat × Nat × Nat)) (x : Nat × Nat × Nat × Nat) (suf : List (Nat × Nat × Nat × Nat)), hh = pre ++ x :: suf ∧ x.2.2.1 = tgt ∧ (x.1 ≤ pc ∧ pc < x.2.1) ∧ x.2.2.2 ≠ 0 ∧ Cond.classLink "FlowNetworkLaw" x.2.2.2 E ∈ TB ∧ ∀ z ∈ pre, z.2.2.2 ≠ 0 ∧ ∃ nm, Cond.classLink "FlowNetworkLaw" z.2.2.2 nm ∈ TB ∧ (E, nm) ∈ xnot
section ZLA
variable {p : Program} {l : Launch} {e : Env} {R : Room} {s : State} {m : MethodId} {args : Array Value} {below : List Frame} {meth : Method} {c : Code} {D : va_G} {cs : Nat → ClassId} {ids : List Ix} {ad : Ix → Nat} {A : Nat → Prop} {H0 : Heap} {nL : Nat} {Q : State → Prop} {mc ms : Nat} {σ : Mem} {pc : Nat} {lo : List (Option Value)} {st : List Value} {cc : ByteArray} {own : String}
theorem iI_long' (x : Int) : (iI x).toInt64 = iL (iI x).toInt := by
  have := iI_long (iI_rg (iI x))
  rw [iI_self] at this
  exact this
/-- whatever the number is -/
theorem zr_i2lw (X : Cx p s m args meth c cc nL own) {x : Int} (d : decode cc pc = .ok (.i2l, 1)) (k : Wx p l e R s m args below meth c D cs ids ad A H0 nL Q mc ms σ (pc + 1) lo (.long (iL (iI x).toInt) :: st)) : Wx p l e R s m args below meth c D cs ids ad A H0 nL Q mc ms σ pc lo (jI x :: st) := fun H locs ls hP hS hl => lv_i2l X.1 X.2.1 d (iI_long' x) (k H locs ls hP hS hl)
theorem mset_out {i : Ix} (z : Int) (j : Nat) : mset σ i 0 z i (j : Int) = if j = 0 then z else σ i (j : Int) := by
  rw [mset_at]
  by_cases h : j = 0
  · rw [if_pos h, if_pos (by omega)]
  · rw [if_neg h, if_neg (by omega)]
theorem zr_lastw (X : Cx p s m args meth c cc nL own) (K : Kx D cs ids ad A s) {z : Int} (hi : ((5, 0) : Ix) ∈ ids) (d : decode cc pc = .ok (.lastore, 1)) (kk : Wx p l e R s m args below meth c D cs ids ad A H0 nL Q mc ms (mset σ (5, 0) 0 z) (pc + 1) lo st) : Wx p l e R s m args below meth c D cs ids ad A H0 nL Q mc ms σ pc lo (.long (iL z) :: jI 0 :: .ref (ad (5, 0)) :: st) := fun H locs ls hP hS hl => by
  obtain ⟨q0, h1, h2⟩ := ids_place (cs := cs) (ad := ad) (σ := σ) hi
  refine va_last (f := fun j => iL (σ (5, 0) (j : Int))) X.1 X.2.1 K.1 (pic_P hP) (pic_D K.2.2.2.1 K.2.1 K.2.2.1) hS q0 2 h2 rfl (iI_in (n := 1) (Int.le_refl 0) (by decide) (by decide)) d (fun H1 locs1 hP1 _ hS1 => kk H1 locs1 ls (pic_set K.2.2.2.1 h1 hP1 ?_ (mset_owner rfl)) hS1 hl)
  show (Sum.inl (cs 2, 1, Sum.inr (Sum.inl _)) : va_E) = _
  congr 5
  funext j
  rw [mset_out, iI_clamp (Int.le_refl 0) (by decide)]
  show _ = vp_updL _ 0 _ j
  unfold vp_updL
  split <;> rfl
theorem zr_dastw (X : Cx p s m args meth c cc nL own) (K : Kx D cs ids ad A s) {z : UInt64} (hi : ((5, 1) : Ix) ∈ ids) (d : decode cc pc = .ok (.dastore, 1)) (kk : Wx p l e R s m args below meth c D cs ids ad A H0 nL Q mc ms (mset σ (5, 1) 0 (z.toNat : Int)) (pc + 1) lo st) : Wx p l e R s m args below meth c D cs ids ad A H0 nL Q mc ms σ pc lo (.double z :: jI 0 :: .ref (ad (5, 1)) :: st) := fun H locs ls hP hS hl => by
  obtain ⟨q0, h1, h2⟩ := ids_place (cs := cs) (ad := ad) (σ := σ) hi
  refine va_dast (f := fun j => UInt64.ofNat (σ (5, 1) (j : Int)).toNat) X.1 X.2.1 K.1 (pic_P hP) (pic_D K.2.2.2.1 K.2.1 K.2.2.1) hS q0 3 h2 rfl (iI_in (n := 1) (Int.le_refl 0) (by decide) (by decide)) d (fun H1 locs1 hP1 _ hS1 => kk H1 locs1 ls (pic_set K.2.2.2.1 h1 hP1 ?_ (mset_owner rfl)) hS1 hl)
  show (Sum.inl (cs 3, 1, Sum.inr (Sum.inr (Sum.inr (Sum.inl _)))) : va_E) = _
  congr 7
  funext j
  rw [mset_out, iI_clamp (Int.le_refl 0) (by decide)]
  show _ = vf_upd _ 0 _ j
  unfold vf_upd
  split
  · rw [Int.toNat_natCast, UInt64.ofNat_toNat]
  · rfl
theorem zr_laldw (X : Cx p s m args meth c cc nL own) (K : Kx D cs ids ad A s) (hi : ((5, 0) : Ix) ∈ ids) (d : decode cc pc = .ok (.laload, 1)) (kk : Wx p l e R s m args below meth c D cs ids ad A H0 nL Q mc ms σ (pc + 1) lo (.long (iL (σ (5, 0) 0)) :: st)) : Wx p l e R s m args below meth c D cs ids ad A H0 nL Q mc ms σ pc lo (jI 0 :: .ref (ad (5, 0)) :: st) := fun H locs ls hP hS hl => by
  refine va_lald (f := fun j => iL (σ (5, 0) (j : Int))) X.1 X.2.1 K.1 (pic_one hP hi rfl) 0 2 rfl rfl (iI_in (n := 1) (Int.le_refl 0) (by decide) (by decide)) d ?_
  rw [iI_clamp (Int.le_refl 0) (by decide)]
  exact kk H locs ls hP hS hl
theorem zr_daldw (X : Cx p s m args meth c cc nL own) (K : Kx D cs ids ad A s) (hi : ((5, 1) : Ix) ∈ ids) (d : decode cc pc = .ok (.daload, 1)) (kk : Wx p l e R s m args below meth c D cs ids ad A H0 nL Q mc ms σ (pc + 1) lo (.double (UInt64.ofNat (σ (5, 1) 0).toNat) :: st)) : Wx p l e R s m args below meth c D cs ids ad A H0 nL Q mc ms σ pc lo (jI 0 :: .ref (ad (5, 1)) :: st) := fun H locs ls hP hS hl => by
  refine va_dald (f := fun j => UInt64.ofNat (σ (5, 1) (j : Int)).toNat) X.1 X.2.1 K.1 (pic_one hP hi rfl) 0 3 rfl rfl (iI_in (n := 1) (Int.le_refl 0) (by decide) (by decide)) d ?_
  rw [iI_clamp (Int.le_refl 0) (by decide)]
  exact kk H locs ls hP hS hl
theorem zr_lcmpw (X : Cx p s m args meth c cc nL own) {x y : Int64} {z : Int} (d : decode cc pc = .ok (.lcmp, 1)) (h : lg_cmp x y = iI z) (k : Wx p l e R s m args below meth c D cs ids ad A H0 nL Q mc ms σ (pc + 1) lo (jI z :: st)) : Wx p l e R s m args below meth c D cs ids ad A H0 nL Q mc ms σ pc lo (.long y :: .long x :: st) := fun H locs ls hP hS hl => W.lcmp X.1 X.2.1 d (by rw [h]; exact k H locs ls hP hS hl)
theorem lcmp_0 {x y : Int64} (h : x = y) : lg_cmp x y = iI 0 := (lg_cmp_eq x y).mpr h
theorem zr_tabIn (X : Cx p s m args meth c cc nL own) {dflt lw hi : Int} {offs : Array Int} {len : Nat} {x off : Int} (tgt : Nat) (d : decode cc pc = .ok (.tableswitch dflt lw hi offs, len)) (hx : rg x) (h : lw ≤ x ∧ x ≤ hi) (ho : offs[(x - lw).toNat]? = some off) (ht : (pc : Int) + off = (tgt : Int)) (k : Wx p l e R s m args below meth c D cs ids ad A H0 nL Q mc ms σ tgt lo st) : Wx p l e R s m args below meth c D cs ids ad A H0 nL Q mc ms σ pc lo (jI x :: st) := fun H locs ls hP hS hl => lv_tableIn X.1 X.2.1 d (by rw [iI_toInt hx]; omega) (by rw [iI_toInt hx]; omega) (by rw [iI_toInt hx]; exact ho) ht (k H locs ls hP hS hl)
theorem zr_tabOut (X : Cx p s m args meth c cc nL own) {dflt lw hi : Int} {offs : Array Int} {len : Nat} {x : Int} (tgt : Nat) (d : decode cc pc = .ok (.tableswitch dflt lw hi offs, len)) (hx : rg x) (h : x < lw ∨ hi < x) (ht : (pc : Int) + dflt = (tgt : Int)) (k : Wx p l e R s m args below meth c D cs ids ad A H0 nL Q mc ms σ tgt lo st) : Wx p l e R s m args below meth c D cs ids ad A H0 nL Q mc ms σ pc lo (jI x :: st) := fun H locs ls hP hS hl => lv_tableOut X.1 X.2.1 d (by rw [iI_toInt hx]; exact h) ht (k H locs ls hP hS hl)
/-- the script -/
theorem zr_sld (X : Cx p s m args meth c cc nL own) {b L : Nat} {xs : Nat → Int32} (hX : va_X b L xs s s.heap) (hbl : b < s.heap.size) (hbA : ¬ A b) {z : Int} (h0 : 0 ≤ z ∧ z < L) (hL : L < 100000) (d : decode cc pc = .ok (.iaload, 1)) (k : Wx p l e R s m args below meth c D cs ids ad A s.heap nL Q mc ms σ (pc + 1) lo (jI (xs z.toNat).toInt :: st)) : Wx p l e R s m args below meth c D cs ids ad A s.heap nL Q mc ms σ pc lo (jI z :: .ref b :: st) := fun H locs ls hP hS hl => by
  refine va_sld X.1 X.2.1 hX hbl hbA hS (iI_in h0.1 h0.2 (by omega)) d ?_
  rw [iI_clamp h0.1 (by omega), ← iI_self (xs z.toNat)]
  exact k H locs ls hP hS hl
theorem zr_slen (X : Cx p s m args meth c cc nL own) {b L : Nat} {xs : Nat → Int32} (hX : va_X b L xs s s.heap) (hbl : b < s.heap.size) (hbA : ¬ A b) (d : decode cc pc = .ok (.arraylength, 1)) (k : Wx p l e R s m args below meth c D cs ids ad A s.heap nL Q mc ms σ (pc + 1) lo (jI (L : Int) :: st)) : Wx p l e R s m args below meth c D cs ids ad A s.heap nL Q mc ms σ pc lo (.ref b :: st) := fun H locs ls hP hS hl => va_slen X.1 X.2.1 hX hbl hbA hS d (by rw [iI_nat]; exact k H locs ls hP hS hl)
/-- a question or a change of the class's, called by a method of the law that has handlers -/
theorem pre_up (K : Kx D cs idsA ad A s) (hZ : Zx A s) (hA : ∀ q, s.heap.size ≤ q → A q) {H : Heap} {locs : List Loc} {As : List Value} (hP : Pic D cs idsA ad σ H) (hS : va_S A s.heap H locs) : PreV s H RX6 (ad (3, 7)) (va_Pc (.ref (ad (3, 7)) :: As) (fun U => WoX D cs idsF ad H.size σ U)) As :=
  ⟨fun a U g mk q => ⟨q.1, Wo.same (u := U) (U := U.calling g mk a) rfl rfl q.2.1, q.2.2.1, Zx_same (u := U) (U := U.calling g mk a) rfl rfl q.2.2.2⟩, va_recv K.1 (pic_one hP (idsF_A _ (by decide +kernel)) rfl) (ci := 6) rfl (q0 := 0) rfl, fun U hU hW => ⟨rfl, ⟨by rw [hU]; exact fun i hi => hP i (idsF_A i hi), va_K.moved hW.alike K.1, K.2.2.2.2.1.warm hW, K.2.2.2.2.2.warm hW⟩, by rw [hU], Zx_to hZ hS hU hW (fun q h => h.elim (fun ⟨i, hi, e⟩ => e ▸ K.2.2.1 i (idsF_A i hi)) (fun h => hA q (Nat.le_trans hS.1 h)))⟩⟩
theorem RgF_A (K : Kx D cs idsA ad A s) (hA : ∀ q, s.heap.size ≤ q → A q) {H : Heap} {locs : List Loc} (hS : va_S A s.heap H locs) : ∀ q, RgN idsF ad H.size q → A q := fun q h => h.elim (fun ⟨i, hi, e⟩ => e ▸ K.2.2.1 i (idsF_A i hi)) (fun h => hA q (Nat.le_trans hS.1 h))
theorem zr_hand {hh : List (Nat × Nat × Nat × Nat)} (X : Cx p s m args meth c cc nL "FlowNetworkLaw") (K : Kx D cs idsA ad A s) (hT : c.exceptionTable.toList = tableOf hh) {E : String} {tgt q9 : Nat} {ce : Cell} {H : Heap} {locs : List Loc} {ls : Array Slot} {rest : List Value} (h : Hd hh pc E tgt) (g1 : H[q9]? = some ce) (g2 : ce.vm = .none) (g3 : s.vm.findClass E = some ce.cls) (kk : W p l e R s m args below meth c H locs mc ms Q (F0 m tgt ls [.ref q9])) : vx_W p l e R s m args below meth c H locs mc ms Q (F0 m pc ls rest) q9 := by
  obtain ⟨hc, pre, x, suf, rfl, rfl, h3, h4, h5, h6⟩ := h
  refine vx_catch X.2.2.2.1 (tableOf pre) ⟨x.1, x.2.1, x.2.2.1, x.2.2.2⟩ (tableOf suf) (by rw [hT]; simp [tableOf]) (fun z hz => ?_) (by simp [covers, h3.1, h3.2]) h4 (X.2.2.2.2.1 _ h5) (va_Nw.use rfl (K.2.2.2.2.1 _ hc)) g1 g2 g3 kk
  obtain ⟨y, hy, rfl⟩ := List.mem_map.mp hz
  obtain ⟨a1, nm, a2, a3⟩ := h6 y hy
  exact Or.inr ⟨a1, nm, X.2.2.2.2.1 _ a2, K.2.2.2.2.2.2 _ a3⟩
theorem zr_wcallI {hh : List (Nat × Nat × Nat × Nat)} (X : Cx p s m args meth c cc nL "FlowNetworkLaw") (K : Kx D cs idsA ad A s) (hZ : Zx A s) (hA : ∀ q, s.heap.size ≤ q → A q) (hT : c.exceptionTable.toList = tableOf hh) {y : MethodName} {bytes : ByteArray} {maxL index na : Nat} {ret : FieldType} {As st1 : List Value} {Post : Int → Mem → Prop} {XP : String → Prop} (hC : ∀ sz', CXI l D cs idsF ad y bytes maxL ret 7 8 48 sz' (.ref (ad (3, 7)) :: As) σ Post XP) (L : lkV "FlowNetworkLaw" index y bytes maxL (some ret)) (hd : dcl y na) (hy : y.cls = RX6) (hst : st1 = As.reverse ++ .ref (ad (3, 7)) :: st) (hn : As.length = na) (hW : (st.map fun v => v.category).sum ≤ 8) (hR : (7 + 1 ≤ R.frames ∧ 8 + (maxL + 11) + (100 + 60 * 7) ≤ R.locals) ∧ mc + 8 ≤ R.cells ∧ ms + 48 ≤ R.slots) (d : decode cc pc = .ok (.invokevirtual index, 3)) (h45 : ∀ z τ, Post z τ → g45 σ τ)
    (kx : ∀ (E : String) (q9 : Nat), XP E → ∃ tgt, Hd hh pc E tgt ∧ Wx p l e R s m args below meth c D cs idsA ad A s.heap nL Q (mc + 8) (ms + 48) σ tgt lo [.ref q9])
    (kk : ∀ (z : Int) (τ : Mem), Post z τ → Wx p l e R s m args below meth c D cs idsA ad A s.heap nL Q (mc + 8) (ms + 48) τ (pc + 3) lo (jI z :: st)) : Wx p l e R s m args below meth c D cs idsA ad A s.heap nL Q mc ms σ pc lo st1 := fun H locs ls hP hS hl => by
  subst hst
  have hup := RgF_A K hA hS
  refine vx_calli (vx_runV (As := As) (rest := st) (C := y.cls) ⟨X.1, X.2.1, X.2.2.1, X.2.2.2.1, X.2.2.2.2.1⟩ (hC H.size) (cb_V X L hd hR.1) (by rw [hy]; exact pre_up K hZ hA hP hS) rfl hn hl.1 rfl (by show 2 * 0 + _ ≤ 8; omega) d hR.2) hS (fun q _ h => hup q h) hup (fun q _ h => hup q h) (fun E ce q9 u t H1 locs1 ht _ hu hB _ hk1 hS1 g1 g2 g3 => ?_) (fun r u t H1 locs1 ht _ hw hB _ hk1 hS1 => ?_)
  · obtain ⟨rfl, hB⟩ := hB
    rw [ht] at hB
    obtain ⟨tgt, h1, h2⟩ := kx E q9 hu
    exact zr_hand X K hT h1 g1 g2 g3 (h2 H1 locs1 ls (pic_up K.2.1 hP hB hk1 g45.rf) hS1 hl)
  · obtain ⟨rfl, hp⟩ := hw
    rw [ht] at hB
    exact kk u.1 u.2 hp H1 locs1 ls (pic_up K.2.1 hP hB hk1 (h45 _ _ hp)) hS1 hl
theorem zr_wcallD {hh : List (Nat × Nat × Nat × Nat)} (X : Cx p s m args meth c cc nL "FlowNetworkLaw") (K : Kx D cs idsA ad A s) (hZ : Zx A s) (hA : ∀ q, s.heap.size ≤ q → A q) (hT : c.exceptionTable.toList = tableOf hh) {y : MethodName} {bytes : ByteArray} {maxL index na : Nat} {As st1 : List Value} {Post : UInt64 → Mem → Prop} {XP : String → Prop} (hC : ∀ sz', CXD l D cs idsF ad y bytes maxL 7 8 48 sz' (.ref (ad (3, 7)) :: As) σ Post XP) (L : lkV "FlowNetworkLaw" index y bytes maxL (some .double)) (hd : dcl y na) (hy : y.cls = RX6) (hst : st1 = As.reverse ++ .ref (ad (3, 7)) :: st) (hn : As.length = na) (hW : (st.map fun v => v.category).sum ≤ 8) (hR : (7 + 1 ≤ R.frames ∧ 8 + (maxL + 11) + (100 + 60 * 7) ≤ R.locals) ∧ mc + 8 ≤ R.cells ∧ ms + 48 ≤ R.slots) (d : decode cc pc = .ok (.invokevirtual index, 3)) (h45 : ∀ z τ, Post z τ → g45 σ τ)
    (kx : ∀ (E : String) (q9 : Nat), XP E → ∃ tgt, Hd hh pc E tgt ∧ Wx p l e R s m args below meth c D cs idsA ad A s.heap nL Q (mc + 8) (ms + 48) σ tgt lo [.ref q9])
    (kk : ∀ (z : UInt64) (τ : Mem), Post z τ → Wx p l e R s m args below meth c D cs idsA ad A s.heap nL Q (mc + 8) (ms + 48) τ (pc + 3) lo (.double z :: st)) : Wx p l e R s m args below meth c D cs idsA ad A s.heap nL Q mc ms σ pc lo st1 := fun H locs ls hP hS hl => by
  subst hst
  have hup := RgF_A K hA hS
  refine vx_calld (vx_runV (As := As) (rest := st) (C := y.cls) ⟨X.1, X.2.1, X.2.2.1, X.2.2.2.1, X.2.2.2.2.1⟩ (hC H.size) (cb_V X L hd hR.1) (by rw [hy]; exact pre_up K hZ hA hP hS) rfl hn hl.1 rfl (by show 2 * 0 + _ ≤ 8; omega) d hR.2) hS (fun q _ h => hup q h) hup (fun q _ h => hup q h) (fun E ce q9 u t H1 locs1 ht _ hu hB _ hk1 hS1 g1 g2 g3 => ?_) (fun r u t H1 locs1 ht _ hw hB _ hk1 hS1 => ?_)
  · obtain ⟨rfl, hB⟩ := hB
    rw [ht] at hB
    obtain ⟨tgt, h1, h2⟩ := kx E q9 hu
    exact zr_hand X K hT h1 g1 g2 g3 (h2 H1 locs1 ls (pic_up K.2.1 hP hB hk1 g45.rf) hS1 hl)
  · obtain ⟨rfl, hp⟩ := hw
    rw [ht] at hB
    exact kk u.1 u.2 hp H1 locs1 ls (pic_up K.2.1 hP hB hk1 (h45 _ _ hp)) hS1 hl
end ZLA
/-- a method of the law that calls one of the class's and tells what it threw -/
abbrev xNo (ad : Ix → Nat) (sz : Nat) : String → State → State → Prop := vx_X (fun (_ : Unit) => False) (fun _ _ _ => True) (RgN idsA ad sz)
def CW (l : Launch) (D : va_G) (cs : Nat → ClassId) (ad : Ix → Nat) (y : MethodName) (cc : ByteArray) (nL : Nat) (hh : List (Nat × Nat × Nat × Nat)) (sz : Nat) (as : List Value) (σ : Mem) (Post : Int → Mem → Prop) : Prop :=
  vx_Met l y (.codeWith y cc nL (some .int) hh :: TB) (rmm 8 8 48) (va_Pc as (fun U => WoX D cs idsA ad sz σ U)) (qXI D cs idsA ad sz Post) (xNo ad sz) 8 48 (RgN idsA ad sz)
theorem CW.of {l : Launch} {D : va_G} {cs : Nat → ClassId} {ad : Ix → Nat} {y : MethodName} {cc : ByteArray} {nL sz : Nat} {hh : List (Nat × Nat × Nat × Nat)} {as : List Value} {σ : Mem} {Post : Int → Mem → Prop} (hap : Apart idsA ad) (hy : plainName y.cls = true) (ho : y.cls = "FlowNetworkLaw") (hlen : (lg_sl as).length ≤ nL)
    (body : ∀ (p : Program) (e : Env) (s : State) (m : MethodId) (args : Array Value) (below : List Frame) (meth : Method) (c : Code), Cx p s m args meth c cc nL "FlowNetworkLaw" → Kx D cs idsA ad (RgN idsA ad sz) s → Zx (RgN idsA ad sz) s → (∀ q, s.heap.size ≤ q → RgN idsA ad sz q) → c.exceptionTable.toList = tableOf hh → meth.sig.returnType = some .int →
      Wx p l e (rmm 8 8 48) s m args below meth c D cs idsA ad (RgN idsA ad sz) s.heap nL (vx_MQ below (qXI D cs idsA ad sz Post) (xNo ad sz) args s 8 48 (RgN idsA ad sz)) 0 0 σ 0 (entryLo as nL) []) : CW l D cs ad y cc nL hh sz as σ Post := by
  refine vx_ofWH (cc := cc) (maxL := nL) (ret := some .int) (hh := hh) hy rfl ?_
  intro p e s m args below meth c s₁ B hml hv
  obtain ⟨rfl, ⟨hP, hK, hN, hX⟩, hsz, hZ⟩ := hv
  have hts := atoms_spec (ws := .codeWith y cc nL (some .int) hh :: TB) B.pre
  have hown : s.vm.findClass "FlowNetworkLaw" = some m.cls := ho ▸ findClass_of_methodNamed B.named
  rw [lg_entry_eq]
  exact body p e s m as.toArray below meth c ⟨B.exec, B.bytes, hml, hown, fun w hw => hts w (List.mem_cons_of_mem _ hw), B.notSynchronized⟩ ⟨hK, hap, fun i hi => Or.inl ⟨i, hi, rfl⟩, idsA_nd, hN, hX⟩ hZ (fun q hq => Or.inr (by omega)) (vx_table (x := y) B (hts _ List.mem_cons_self)) B.returns s.heap [] _ hP va_S.rf (lo_entry as hlen)
section ZLB
variable {p : Program} {l : Launch} {e : Env} {R : Room} {s : State} {m : MethodId} {args : Array Value} {below : List Frame} {meth : Method} {c : Code} {D : va_G} {cs : Nat → ClassId} {ad : Ix → Nat} {A : Nat → Prop} {nL : Nat} {Q : State → Prop} {mc ms sz : Nat} {σ : Mem} {pc : Nat} {lo : List (Option Value)} {st : List Value} {cc : ByteArray} {own : String}
theorem zr_wret (X : Cx p s m args meth c cc nL own) {Post : Int → Mem → Prop} {z : Int} (hm : mc ≤ 8 ∧ ms ≤ 48) (hr : meth.sig.returnType = some .int) (d : decode cc pc = .ok (.ireturn, 1)) (h : Post z σ) : Wx p l e R s m args below meth c D cs idsA ad (RgN idsA ad sz) s.heap nL (vx_MQ below (qXI D cs idsA ad sz Post) (xNo ad sz) args s 8 48 (RgN idsA ad sz)) mc ms σ pc lo [jI z] := fun H locs ls hP hS hl =>
  W.widen hm.1 hm.2 (vx_ret (W.iret X.1 X.2.1 hr (fun t ht _ => ⟨⟨iI z, (z, σ), rfl, ⟨rfl, h⟩, (by show Pic D cs idsA ad σ t.heap; rw [ht]; exact hP)⟩, hS.F ht⟩) hS.2.2 d X.2.2.2.2.2))
theorem wsw_in {y : MethodName} {bytes : ByteArray} {maxL : Nat} {hh : List (Nat × Nat × Nat × Nat)} (h : Cond.codeWith y bytes maxL (some .int) hh ∈ TB) : GoodIn TB (.codeWith y bytes maxL (some .int) hh :: TB) := fun w hw => by
  have hm : w ∈ TB := (List.mem_cons.mp hw).elim (fun e => by rw [e]; exact h) id
  exact ⟨hm, good_of_word (TB_good hm)⟩
/-- the law calls one of these methods -/
theorem zr_lawS {hh : List (Nat × Nat × Nat × Nat)} (X : Cx p s m args meth c cc nL "FlowNetworkLaw") (K : Kx D cs idsA ad A s) (hZ : Zx A s) (hA : ∀ q, s.heap.size ≤ q → A q) {y : MethodName} {bytes : ByteArray} {maxL index na : Nat} {As st1 : List Value} {Post : Int → Mem → Prop} (hC : ∀ sz', CW l D cs ad y bytes maxL hh sz' As σ Post) (hl1 : Cond.methodLink "FlowNetworkLaw" index y ∈ TB) (hs1 : Cond.static y ∈ TB) (hi1 : Cond.initialized y.cls ∈ TB) (hc1 : Cond.codeWith y bytes maxL (some .int) hh ∈ TB) (hd : dcl y na) (hst : st1 = As.reverse ++ st) (hn : As.length = na) (hW : (st.map fun v => v.category).sum ≤ 8) (hR : (8 + 1 ≤ R.frames ∧ 8 + (maxL + 11) + (100 + 60 * 8) ≤ R.locals) ∧ mc + 8 ≤ R.cells ∧ ms + 48 ≤ R.slots) (d : decode cc pc = .ok (.invokestatic index, 3))
    (kk : ∀ (z : Int) (τ : Mem), Post z τ → Wx p l e R s m args below meth c D cs idsA ad A s.heap nL Q (mc + 8) (ms + 48) τ (pc + 3) lo (jI z :: st)) : Wx p l e R s m args below meth c D cs idsA ad A s.heap nL Q mc ms σ pc lo st1 := fun H locs ls hP hS hl => by
  subst hst
  have hup : ∀ q, RgN idsA ad H.size q → A q := fun q h => h.elim (Rg_in K q) (fun h => hA q (Nat.le_trans hS.1 h))
  have hcode := X.2.2.2.2.1 _ hc1
  have hG := wsw_in hc1
  refine vx_calli (vx_runSX (hh := hh) (bytes := bytes) (maxL := maxL) (ret := some .int) (As := As) (rest := st) ⟨X.1, X.2.1, X.2.2.1, X.2.2.2.1, X.2.2.2.2.1⟩ (hC H.size) ⟨⟨rfl, rfl, hR.1.1, hR.1.2, pay_in X.2.2.2.2.1 hG, List.mem_cons_self⟩, hcode, X.2.2.2.2.1 _ hi1, ⟨hd.1, hd.2.1⟩, fun sig h => (by
    have h2 := hd.2.2
    rw [h] at h2
    exact (Option.some.inj h2).symm), X.2.2.2.2.1 _ hl1, X.2.2.2.2.1 _ hs1⟩ ⟨fun a U g mk q => ⟨q.1, Wo.same (u := U) (U := U.calling g mk a) rfl rfl q.2.1, q.2.2.1, Zx_same (u := U) (U := U.calling g mk a) rfl rfl q.2.2.2⟩, fun U hU hW => ⟨rfl, ⟨by rw [hU]; exact hP, va_K.moved hW.alike K.1, K.2.2.2.2.1.warm hW, K.2.2.2.2.2.warm hW⟩, by rw [hU], Zx_to hZ hS hU hW hup⟩⟩ rfl hn hl.1 rfl (by show 2 * 0 + _ ≤ 8; omega) d hR.2) hS (fun q _ h => hup q h) hup (fun q _ h => hup q h) (fun E ce q9 u t H1 locs1 ht _ hu => hu.elim) (fun r u t H1 locs1 ht _ hw hB _ _ hS1 => ?_)
  obtain ⟨rfl, hp⟩ := hw
  exact kk u.1 u.2 hp H1 locs1 ls (by rw [← ht]; exact hB) hS1 hl
/-- the reference answers -/
theorem pre_M (K : Kx D cs idsA ad A s) {H : Heap} {As : List Value} (hP : Pic D cs idsA ad σ H) : PreV s H RX7 (ad (4, 0)) (va_Pc (.ref (ad (4, 0)) :: As) (fun U => Wo D cs idsM ad σ U)) As :=
  ⟨fun a U g mk q => ⟨q.1, Wo.same (u := U) (U := U.calling g mk a) rfl rfl q.2⟩, va_recv K.1 (pic_one hP (idsM_A _ (by decide +kernel)) rfl) (ci := 7) rfl (q0 := 0) rfl, fun U hU hW => ⟨rfl, by rw [hU]; exact fun i hi => hP i (idsM_A i hi), va_K.moved hW.alike K.1, K.2.2.2.2.1.warm hW, K.2.2.2.2.2.warm hW⟩⟩
theorem pre_F (K : Kx D cs idsA ad A s) {H : Heap} {As : List Value} (hP : Pic D cs idsA ad σ H) : PreV s H RX6 (ad (3, 7)) (va_Pc (.ref (ad (3, 7)) :: As) (fun U => Wo D cs idsF ad σ U)) As :=
  ⟨fun a U g mk q => ⟨q.1, Wo.same (u := U) (U := U.calling g mk a) rfl rfl q.2⟩, va_recv K.1 (pic_one hP (idsF_A _ (by decide +kernel)) rfl) (ci := 6) rfl (q0 := 0) rfl, fun U hU hW => ⟨rfl, by rw [hU]; exact fun i hi => hP i (idsF_A i hi), va_K.moved hW.alike K.1, K.2.2.2.2.1.warm hW, K.2.2.2.2.2.warm hW⟩⟩
theorem RgM_A (K : Kx D cs idsA ad A s) : ∀ q, Rg idsM ad q → A q := fun q ⟨i, hi, e⟩ => e ▸ K.2.2.1 i (idsM_A i hi)
theorem RgF_A' (K : Kx D cs idsA ad A s) : ∀ q, Rg idsF ad q → A q := fun q ⟨i, hi, e⟩ => e ▸ K.2.2.1 i (idsF_A i hi)
theorem cb_VR (X : Cx p s m args meth c cc nL own) {y : MethodName} {bytes : ByteArray} {maxL index n : Nat} {ret : Option FieldType} {rm : Room} (L : lkV own index y bytes maxL ret) (hd : dcl y n) (h0 : rm.cells = 0 ∧ rm.slots = 0) (hR : rm.frames + 1 ≤ R.frames ∧ 8 + (maxL + 11) + rm.locals ≤ R.locals) : CallW R s args own y.cls index y bytes maxL ret (wsy y bytes maxL ret) rm 0 0 n :=
  ⟨callB_of n X.2.2.2.2.1 (wsy_in L.2.2.2.2) rfl h0.1 h0.2 (X.2.2.2.2.1 _ L.2.2.2.1) (X.2.2.2.2.1 _ L.1) hd hR, X.2.2.2.2.1 _ L.2.1, X.2.2.2.2.1 _ L.2.2.1⟩
theorem zr_mcallI (X : Cx p s m args meth c cc nL own) (K : Kx D cs idsA ad A s) {y : MethodName} {bytes : ByteArray} {maxL index na : Nat} {ret : FieldType} {rm : Room} {As st1 : List Value} {Post : Int → Mem → Prop} (hC : CIR rm l D cs idsM ad y bytes maxL ret (.ref (ad (4, 0)) :: As) σ Post) (L : lkV own index y bytes maxL (some ret)) (hd : dcl y na) (hy : y.cls = RX7) (hst : st1 = As.reverse ++ .ref (ad (4, 0)) :: st) (hn : As.length = na) (hW : (st.map fun v => v.category).sum ≤ 8) (h0 : rm.cells = 0 ∧ rm.slots = 0) (hR : (rm.frames + 1 ≤ R.frames ∧ 8 + (maxL + 11) + rm.locals ≤ R.locals) ∧ mc ≤ R.cells ∧ ms ≤ R.slots) (d : decode cc pc = .ok (.invokevirtual index, 3)) (h4 : ∀ z τ, Post z τ → g4 σ τ)
    (kk : ∀ (z : Int) (τ : Mem), Post z τ → Wx p l e R s m args below meth c D cs idsA ad A s.heap nL Q mc ms τ (pc + 3) lo (jI z :: st)) : Wx p l e R s m args below meth c D cs idsA ad A s.heap nL Q mc ms σ pc lo st1 := fun H locs ls hP hS hl => by
  subst hst
  refine va_calli (mc := 0) (ms := 0) (va_runV (As := As) (rest := st) (C := y.cls) ⟨X.1, X.2.1, X.2.2.1, X.2.2.2.1, X.2.2.2.2.1⟩ hC (cb_VR X L hd h0 hR.1) (by rw [hy]; exact pre_M K hP) rfl hn hl.1 rfl (by show 2 * 0 + _ ≤ 8; omega) d hR.2) hS (fun q _ h => RgM_A K q h) (RgM_A K) (fun r u t H1 locs1 ht _ hw hB _ hk1 hS1 => ?_)
  obtain ⟨rfl, hp⟩ := hw
  rw [ht] at hB
  exact kk u.1 u.2 hp H1 locs1 ls (pic_upM K.2.1 hP hB hk1 (h4 _ _ hp)) hS1 hl
theorem zr_mcallL (X : Cx p s m args meth c cc nL own) (K : Kx D cs idsA ad A s) {y : MethodName} {bytes : ByteArray} {maxL index na h : Nat} {As st1 : List Value} {Post : Int → Mem → Prop} (hC : CL l D cs idsM ad y bytes maxL h (.ref (ad (4, 0)) :: As) σ Post) (L : lkV own index y bytes maxL (some .long)) (hd : dcl y na) (hy : y.cls = RX7) (hst : st1 = As.reverse ++ .ref (ad (4, 0)) :: st) (hn : As.length = na) (hW : (st.map fun v => v.category).sum ≤ 8) (hR : (h + 1 ≤ R.frames ∧ 8 + (maxL + 11) + (100 + 60 * h) ≤ R.locals) ∧ mc ≤ R.cells ∧ ms ≤ R.slots) (d : decode cc pc = .ok (.invokevirtual index, 3)) (h4 : ∀ z τ, Post z τ → g4 σ τ)
    (kk : ∀ (z : Int) (τ : Mem), Post z τ → Wx p l e R s m args below meth c D cs idsA ad A s.heap nL Q mc ms τ (pc + 3) lo (.long (iL z) :: st)) : Wx p l e R s m args below meth c D cs idsA ad A s.heap nL Q mc ms σ pc lo st1 := fun H locs ls hP hS hl => by
  subst hst
  refine va_calll (mc := 0) (ms := 0) (va_runV (As := As) (rest := st) (C := y.cls) ⟨X.1, X.2.1, X.2.2.1, X.2.2.2.1, X.2.2.2.2.1⟩ hC (cb_V X L hd hR.1) (by rw [hy]; exact pre_M K hP) rfl hn hl.1 rfl (by show 2 * 0 + _ ≤ 8; omega) d hR.2) hS (fun q _ h => RgM_A K q h) (RgM_A K) (fun r u t H1 locs1 ht _ hw hB _ hk1 hS1 => ?_)
  obtain ⟨rfl, hp⟩ := hw
  rw [ht] at hB
  exact kk u.1 u.2 hp H1 locs1 ls (pic_upM K.2.1 hP hB hk1 (h4 _ _ hp)) hS1 hl
theorem zr_mcallD (X : Cx p s m args meth c cc nL own) (K : Kx D cs idsA ad A s) {y : MethodName} {bytes : ByteArray} {maxL index na h : Nat} {As st1 : List Value} {Post : UInt64 → Mem → Prop} (hC : CD l D cs idsM ad y bytes maxL h (.ref (ad (4, 0)) :: As) σ Post) (L : lkV own index y bytes maxL (some .double)) (hd : dcl y na) (hy : y.cls = RX7) (hst : st1 = As.reverse ++ .ref (ad (4, 0)) :: st) (hn : As.length = na) (hW : (st.map fun v => v.category).sum ≤ 8) (hR : (h + 1 ≤ R.frames ∧ 8 + (maxL + 11) + (100 + 60 * h) ≤ R.locals) ∧ mc ≤ R.cells ∧ ms ≤ R.slots) (d : decode cc pc = .ok (.invokevirtual index, 3)) (h4 : ∀ z τ, Post z τ → g4 σ τ)
    (kk : ∀ (z : UInt64) (τ : Mem), Post z τ → Wx p l e R s m args below meth c D cs idsA ad A s.heap nL Q mc ms τ (pc + 3) lo (.double z :: st)) : Wx p l e R s m args below meth c D cs idsA ad A s.heap nL Q mc ms σ pc lo st1 := fun H locs ls hP hS hl => by
  subst hst
  refine va_calld (mc := 0) (ms := 0) (va_runV (As := As) (rest := st) (C := y.cls) ⟨X.1, X.2.1, X.2.2.1, X.2.2.2.1, X.2.2.2.2.1⟩ hC (cb_V X L hd hR.1) (by rw [hy]; exact pre_M K hP) rfl hn hl.1 rfl (by show 2 * 0 + _ ≤ 8; omega) d hR.2) hS (fun q _ h => RgM_A K q h) (RgM_A K) (fun r u t H1 locs1 ht _ hw hB _ hk1 hS1 => ?_)
  obtain ⟨rfl, hp⟩ := hw
  rw [ht] at hB
  exact kk u.1 u.2 hp H1 locs1 ls (pic_upM K.2.1 hP hB hk1 (h4 _ _ hp)) hS1 hl
theorem Rg_N {H : Heap} {H1 : Heap} (h : ∀ q : Nat, q < H.size → ¬ Rg idsF ad q → H1[q]? = H[q]?) : ∀ q : Nat, q < H.size → ¬ RgN idsF ad H.size q → H1[q]? = H[q]? := fun q h1 h2 => h q h1 (fun g => h2 (Or.inl g))
/-- the class's methods that never throw -/
theorem zr_fcallI (X : Cx p s m args meth c cc nL own) (K : Kx D cs idsA ad A s) {y : MethodName} {bytes : ByteArray} {maxL index na h : Nat} {ret : FieldType} {As st1 : List Value} {Post : Int → Mem → Prop} (hC : CI l D cs idsF ad y bytes maxL ret h (.ref (ad (3, 7)) :: As) σ Post) (L : lkV own index y bytes maxL (some ret)) (hd : dcl y na) (hy : y.cls = RX6) (hst : st1 = As.reverse ++ .ref (ad (3, 7)) :: st) (hn : As.length = na) (hW : (st.map fun v => v.category).sum ≤ 8) (hR : (h + 1 ≤ R.frames ∧ 8 + (maxL + 11) + (100 + 60 * h) ≤ R.locals) ∧ mc ≤ R.cells ∧ ms ≤ R.slots) (d : decode cc pc = .ok (.invokevirtual index, 3)) (h45 : ∀ z τ, Post z τ → g45 σ τ)
    (kk : ∀ (z : Int) (τ : Mem), Post z τ → Wx p l e R s m args below meth c D cs idsA ad A s.heap nL Q mc ms τ (pc + 3) lo (jI z :: st)) : Wx p l e R s m args below meth c D cs idsA ad A s.heap nL Q mc ms σ pc lo st1 := fun H locs ls hP hS hl => by
  subst hst
  refine va_calli (mc := 0) (ms := 0) (va_runV (As := As) (rest := st) (C := y.cls) ⟨X.1, X.2.1, X.2.2.1, X.2.2.2.1, X.2.2.2.2.1⟩ hC (cb_V X L hd hR.1) (by rw [hy]; exact pre_F K hP) rfl hn hl.1 rfl (by show 2 * 0 + _ ≤ 8; omega) d hR.2) hS (fun q _ h => RgF_A' K q h) (RgF_A' K) (fun r u t H1 locs1 ht _ hw hB _ hk1 hS1 => ?_)
  obtain ⟨rfl, hp⟩ := hw
  rw [ht] at hB
  exact kk u.1 u.2 hp H1 locs1 ls (pic_up K.2.1 hP hB (Rg_N hk1) (h45 _ _ hp)) hS1 hl
theorem zr_fcallL (X : Cx p s m args meth c cc nL own) (K : Kx D cs idsA ad A s) {y : MethodName} {bytes : ByteArray} {maxL index na h : Nat} {As st1 : List Value} {Post : Int → Mem → Prop} (hC : CL l D cs idsF ad y bytes maxL h (.ref (ad (3, 7)) :: As) σ Post) (L : lkV own index y bytes maxL (some .long)) (hd : dcl y na) (hy : y.cls = RX6) (hst : st1 = As.reverse ++ .ref (ad (3, 7)) :: st) (hn : As.length = na) (hW : (st.map fun v => v.category).sum ≤ 8) (hR : (h + 1 ≤ R.frames ∧ 8 + (maxL + 11) + (100 + 60 * h) ≤ R.locals) ∧ mc ≤ R.cells ∧ ms ≤ R.slots) (d : decode cc pc = .ok (.invokevirtual index, 3)) (h45 : ∀ z τ, Post z τ → g45 σ τ)
    (kk : ∀ (z : Int) (τ : Mem), Post z τ → Wx p l e R s m args below meth c D cs idsA ad A s.heap nL Q mc ms τ (pc + 3) lo (.long (iL z) :: st)) : Wx p l e R s m args below meth c D cs idsA ad A s.heap nL Q mc ms σ pc lo st1 := fun H locs ls hP hS hl => by
  subst hst
  refine va_calll (mc := 0) (ms := 0) (va_runV (As := As) (rest := st) (C := y.cls) ⟨X.1, X.2.1, X.2.2.1, X.2.2.2.1, X.2.2.2.2.1⟩ hC (cb_V X L hd hR.1) (by rw [hy]; exact pre_F K hP) rfl hn hl.1 rfl (by show 2 * 0 + _ ≤ 8; omega) d hR.2) hS (fun q _ h => RgF_A' K q h) (RgF_A' K) (fun r u t H1 locs1 ht _ hw hB _ hk1 hS1 => ?_)
  obtain ⟨rfl, hp⟩ := hw
  rw [ht] at hB
  exact kk u.1 u.2 hp H1 locs1 ls (pic_up K.2.1 hP hB (Rg_N hk1) (h45 _ _ hp)) hS1 hl
end ZLB
