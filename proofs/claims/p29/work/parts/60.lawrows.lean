/-! THE LAW'S WORLD: the class's cells, and three rows of the law's own (tails, heads, capacities) -/
def g4 (σ τ : Mem) : Prop := ∀ k : Nat, τ (4, k) = σ (4, k)
theorem g4.rf {σ : Mem} : g4 σ σ := fun _ => rfl
theorem owner_1 : ∀ q : Ix, (owner q).1 = q.1
  | (0, k) => by
    show (owner (0, k)).1 = 0
    unfold owner
    split <;> first | rfl | (rename_i h; cases h; rfl) | simp_all
  | (1, k) => rfl
  | (2, k) => rfl
  | (3, k) => rfl
  | (4, k) => rfl
  | (5, k) => rfl
  | (b + 6, k) => by
    show (owner (b + 6, k)).1 = b + 6
    unfold owner
    split <;> first | rfl | (rename_i h; cases h; rfl) | simp_all
theorem idsF_g : ∀ i ∈ idsF, i.1 ≠ 4 := by decide +kernel
theorem idsM_g : ∀ i ∈ idsM, i.1 = 4 := by decide +kernel
theorem idsF_A : ∀ i ∈ idsF, i ∈ idsA := fun _ h => List.mem_append_left _ h
theorem idsM_A : ∀ i ∈ idsM, i ∈ idsA := fun _ h => List.mem_append_right _ h
theorem mA_0 : ((4, 0) : Ix) ∈ idsA := idsM_A _ mM_0
theorem mA_1 : ((4, 1) : Ix) ∈ idsA := idsM_A _ mM_1
theorem mA_2 : ((4, 2) : Ix) ∈ idsA := idsM_A _ mM_2
theorem ap_F {ad : Ix → Nat} (h : Apart idsA ad) : Apart idsF ad := fun i hi j hj e => h i (idsF_A i hi) j (idsF_A j hj) e
theorem ap_M {ad : Ix → Nat} (h : Apart idsA ad) : Apart idsM ad := fun i hi j hj e => h i (idsM_A i hi) j (idsM_A j hj) e

/-- behind a call that changes the cells of a part of the world -/
theorem pic_part {D : va_G} {cs : Nat → ClassId} {ad : Ix → Nat} {σ τ : Mem} {H H1 : Heap} {ids : List Ix} {B : Nat → Prop} (hap : Apart idsA ad) (hsub : ∀ i ∈ ids, i ∈ idsA) (hP : Pic D cs idsA ad σ H) (hB : Pic D cs ids ad τ H1) (hk : ∀ q : Nat, q < H.size → ¬ B q → H1[q]? = H[q]?) (hb : ∀ q, B q → Rg ids ad q ∨ H.size ≤ q) (hr : ∀ i ∈ idsA, i ∉ ids → ∀ q, owner q = i → σ q = τ q) : Pic D cs idsA ad τ H1 := fun i hi => by
  by_cases h : i ∈ ids
  · exact hB i h
  · have h1 := hP i hi
    rw [← enc_reads (hr i hi h)]
    refine h1.kept (hk _ h1.lt fun g => ?_)
    rcases hb _ g with ⟨j, hj, e⟩ | g
    · exact h (by rw [← hap j (hsub j hj) i hi e]; exact hj)
    · have := h1.lt
      simp only at this
      omega

theorem pic_up {D : va_G} {cs : Nat → ClassId} {ad : Ix → Nat} {σ τ : Mem} {H H1 : Heap} (hap : Apart idsA ad) (hP : Pic D cs idsA ad σ H) (hB : Pic D cs idsF ad τ H1) (hk : ∀ q : Nat, q < H.size → ¬ RgN idsF ad H.size q → H1[q]? = H[q]?) (h : g4 σ τ) : Pic D cs idsA ad τ H1 :=
  pic_part hap idsF_A hP hB hk (fun _ g => g) fun i hi hn q hq => by
    have hg : i.1 = 4 := by
      rcases List.mem_append.mp hi with g | g
      · exact absurd g hn
      · exact idsM_g i g
    have := owner_1 q
    rw [hq, hg] at this
    have := h q.2
    rw [show q = (4, q.2) from Prod.ext (by omega) rfl]
    exact this.symm
theorem pic_upM {D : va_G} {cs : Nat → ClassId} {ad : Ix → Nat} {σ : Mem} {H H1 : Heap} (hap : Apart idsA ad) (hP : Pic D cs idsA ad σ H) (hB : Pic D cs idsM ad σ H1) (hk : ∀ q : Nat, q < H.size → ¬ Rg idsM ad q → H1[q]? = H[q]?) : Pic D cs idsA ad σ H1 :=
  pic_part hap idsM_A hP hB hk (fun _ g => Or.inl g) fun _ _ _ _ _ => rfl
theorem pic_keep {D : va_G} {cs : Nat → ClassId} {ids : List Ix} {ad : Ix → Nat} {σ : Mem} {H H1 : Heap} (hP : Pic D cs ids ad σ H) (hk : ∀ q : Nat, q < H.size → H1[q]? = H[q]?) : Pic D cs ids ad σ H1 := fun i hi => (hP i hi).kept (hk _ (hP i hi).lt)

theorem Zx_to {A B : Nat → Prop} {s U : State} {H : Heap} {locs : List Loc} (hZ : Zx A s) (hS : va_S A s.heap H locs) (hU : U.heap = H) (hW : s.WarmedH U.vm) (hB : ∀ q, B q → A q) : Zx B U := by
  unfold Zx
  rw [hU]
  exact ⟨((hZ.1.moved hW.alike).kept (fun a h1 h2 => hS.2.1 a h1 h2)).narrow hB, ((hZ.2.moved hW.alike).kept (fun a h1 h2 => hS.2.1 a h1 h2)).narrow hB⟩

section ZLA
variable {p : Program} {l : Launch} {e : Env} {R : Room} {s : State} {m : MethodId} {args : Array Value} {below : List Frame} {meth : Method} {c : Code} {D : va_G} {cs : Nat → ClassId} {ids : List Ix} {ad : Ix → Nat} {A : Nat → Prop} {H0 : Heap} {nL : Nat} {Q : State → Prop} {mc ms : Nat} {σ : Mem} {pc : Nat} {lo : List (Option Value)} {st : List Value} {cc : ByteArray} {own : String}

/-- the script -/
theorem zr_sld (X : Cx p s m args meth c cc nL own) {b L : Nat} {xs : Nat → Int32} (hX : va_X b L xs s s.heap) (hbl : b < s.heap.size) (hbA : ¬ A b) {z : Int} (h0 : 0 ≤ z ∧ z < L) (hL : L < 100000) (d : decode cc pc = .ok (.iaload, 1)) (k : Wx p l e R s m args below meth c D cs ids ad A s.heap nL Q mc ms σ (pc + 1) lo (jI (xs z.toNat).toInt :: st)) : Wx p l e R s m args below meth c D cs ids ad A s.heap nL Q mc ms σ pc lo (jI z :: .ref b :: st) := fun H locs ls hP hS hl => by
  refine va_sld X.1 X.2.1 hX hbl hbA hS (iI_in h0.1 h0.2 (by omega)) d ?_
  rw [iI_clamp h0.1 (by omega), ← iI_self (xs z.toNat)]
  exact k H locs ls hP hS hl
theorem zr_slen (X : Cx p s m args meth c cc nL own) {b L : Nat} {xs : Nat → Int32} (hX : va_X b L xs s s.heap) (hbl : b < s.heap.size) (hbA : ¬ A b) (d : decode cc pc = .ok (.arraylength, 1)) (k : Wx p l e R s m args below meth c D cs ids ad A s.heap nL Q mc ms σ (pc + 1) lo (jI (L : Int) :: st)) : Wx p l e R s m args below meth c D cs ids ad A s.heap nL Q mc ms σ pc lo (.ref b :: st) := fun H locs ls hP hS hl => va_slen X.1 X.2.1 hX hbl hbA hS d (by rw [iI_nat]; exact k H locs ls hP hS hl)

theorem pre_up (K : Kx D cs idsA ad A s) (hZ : Zx A s) (hA : ∀ q, s.heap.size ≤ q → A q) {H : Heap} {locs : List Loc} {As : List Value} (hP : Pic D cs idsA ad σ H) (hS : va_S A s.heap H locs) : PreV s H RX6 (ad (3, 7)) (va_Pc (.ref (ad (3, 7)) :: As) (fun U => WoX D cs idsF ad H.size σ U)) As :=
  ⟨fun a U g mk q => ⟨q.1, Wo.same (u := U) (U := U.calling g mk a) rfl rfl q.2.1, q.2.2.1, Zx_same (u := U) (U := U.calling g mk a) rfl rfl q.2.2.2⟩, va_recv K.1 (pic_one hP (idsF_A _ (by decide +kernel)) rfl) (ci := 6) rfl (q0 := 0) rfl, fun U hU hW => ⟨rfl, ⟨by rw [hU]; exact fun i hi => hP i (idsF_A i hi), va_K.moved hW.alike K.1, K.2.2.2.2.1.warm hW, K.2.2.2.2.2.warm hW⟩, by rw [hU], Zx_to hZ hS hU hW (fun q h => h.elim (fun ⟨i, hi, e⟩ => e ▸ K.2.2.1 i (idsF_A i hi)) (fun h => hA q (Nat.le_trans hS.1 h)))⟩⟩
theorem RgF_A (K : Kx D cs idsA ad A s) (hA : ∀ q, s.heap.size ≤ q → A q) {H : Heap} {locs : List Loc} (hS : va_S A s.heap H locs) : ∀ q, RgN idsF ad H.size q → A q := fun q h => h.elim (fun ⟨i, hi, e⟩ => e ▸ K.2.2.1 i (idsF_A i hi)) (fun h => hA q (Nat.le_trans hS.1 h))

/-- the law calls a method of the class, and it does not throw -/
theorem zr_lcallI (X : Cx p s m args meth c cc nL "FlowNetworkLaw") (K : Kx D cs idsA ad A s) (hZ : Zx A s) (hA : ∀ q, s.heap.size ≤ q → A q) {y : MethodName} {bytes : ByteArray} {maxL index na : Nat} {ret : FieldType} {As st1 : List Value} {Post : Int → Mem → Prop} {XP : String → Prop} (hC : ∀ sz', CXI l D cs idsF ad y bytes maxL ret 7 8 48 sz' (.ref (ad (3, 7)) :: As) σ Post XP) (L : lkV "FlowNetworkLaw" index y bytes maxL (some ret)) (hd : dcl y na) (hy : y.cls = RX6) (hst : st1 = As.reverse ++ .ref (ad (3, 7)) :: st) (hn : As.length = na) (hW : (st.map fun v => v.category).sum ≤ 8) (hR : 7 + 1 ≤ R.frames ∧ 8 + (maxL + 11) + (100 + 28 * 7) ≤ R.locals) (hR2 : mc + 8 ≤ R.cells ∧ ms + 48 ≤ R.slots) (d : decode cc pc = .ok (.invokevirtual index, 3)) (h4 : ∀ z τ, Post z τ → g4 σ τ) (hx : ∀ E, ¬ XP E)
    (kk : ∀ (z : Int) (τ : Mem), Post z τ → Wx p l e R s m args below meth c D cs idsA ad A s.heap nL Q (mc + 8) (ms + 48) τ (pc + 3) lo (jI z :: st)) : Wx p l e R s m args below meth c D cs idsA ad A s.heap nL Q mc ms σ pc lo st1 := fun H locs ls hP hS hl => by
  subst hst
  have hup := RgF_A K hA hS
  refine vx_calli (vx_runV (As := As) (rest := st) (C := y.cls) ⟨X.1, X.2.1, X.2.2.1, X.2.2.2.1, X.2.2.2.2.1⟩ (hC H.size) (cb_V X L hd hR) (by rw [hy]; exact pre_up K hZ hA hP hS) rfl hn hl.1 rfl (by show 2 * 0 + _ ≤ 8; omega) d hR2) hS (fun q _ h => hup q h) hup (fun q _ h => hup q h) (fun E ce q9 u t H1 locs1 ht _ hu => (hx _ hu).elim) (fun r u t H1 locs1 ht _ hw hB _ hk1 hS1 => ?_)
  obtain ⟨rfl, hp⟩ := hw
  rw [ht] at hB
  exact kk u.1 u.2 hp H1 locs1 ls (pic_up K.2.1 hP hB hk1 (h4 _ _ hp)) hS1 hl
theorem RgM_A (K : Kx D cs idsA ad A s) : ∀ q, Rg idsM ad q → A q := fun q ⟨i, hi, e⟩ => e ▸ K.2.2.1 i (idsM_A i hi)
theorem pre_SM (K : Kx D cs idsA ad A s) {H : Heap} {As : List Value} (hP : Pic D cs idsA ad σ H) : PreS s H (va_Pc As (fun U => Wo D cs idsM ad σ U)) As :=
  ⟨fun a U g mk q => ⟨q.1, Wo.same (u := U) (U := U.calling g mk a) rfl rfl q.2⟩, fun U hU hW => ⟨rfl, by rw [hU]; exact fun i hi => hP i (idsM_A i hi), va_K.moved hW.alike K.1, K.2.2.2.2.1.warm hW, K.2.2.2.2.2.warm hW⟩⟩
/-- the law calls a method of its own that changes nothing -/
theorem zr_lstat (X : Cx p s m args meth c cc nL own) (K : Kx D cs idsA ad A s) {y : MethodName} {bytes : ByteArray} {maxL index n h : Nat} {ret : FieldType} {As st1 : List Value} {Post : Int → Prop} (hC : CI l D cs idsM ad y bytes maxL ret h As σ (fun z τ => τ = σ ∧ Post z)) (L : lkS own index y bytes maxL (some ret)) (hd : dcl y n) (hst : st1 = As.reverse ++ st) (hn : As.length = n) (hW : (st.map fun v => v.category).sum ≤ 8) (hR : h + 1 ≤ R.frames ∧ 8 + (maxL + 11) + (100 + 28 * h) ≤ R.locals) (hR2 : mc ≤ R.cells ∧ ms ≤ R.slots) (d : decode cc pc = .ok (.invokestatic index, 3))
    (kk : ∀ (z : Int), Post z → Wx p l e R s m args below meth c D cs idsA ad A s.heap nL Q mc ms σ (pc + 3) lo (jI z :: st)) : Wx p l e R s m args below meth c D cs idsA ad A s.heap nL Q mc ms σ pc lo st1 := fun H locs ls hP hS hl => by
  subst hst
  refine va_calli (mc := 0) (ms := 0) (va_runS (As := As) (rest := st) ⟨X.1, X.2.1, X.2.2.1, X.2.2.2.1, X.2.2.2.2.1⟩ hC (cb_S X L hd hR) (pre_SM K hP) rfl hn hl.1 rfl (by show 2 * 0 + _ ≤ 8; omega) d hR2) hS (fun q _ h => RgM_A K q h) (RgM_A K) (fun r u t H1 locs1 ht _ hw hB _ hk1 hS1 => ?_)
  obtain ⟨rfl, hp1, hp⟩ := hw
  rw [ht, hp1] at hB
  exact kk u.1 hp H1 locs1 ls (pic_upM K.2.1 hP hB hk1) hS1 hl
end ZLA
/-! the contracts of the law's own methods -/
/-- a method of the law that reads the script and changes nothing -/
def WoS (D : va_G) (cs : Nat → ClassId) (b L : Nat) (xs : Nat → Int32) (U : State) : Prop := (va_K D vwCl (tysL cs) U ∧ Nx U ∧ Sx U) ∧ va_X b L xs U U.heap ∧ b < U.heap.size
def CS (l : Launch) (D : va_G) (cs : Nat → ClassId) (y : MethodName) (cc : ByteArray) (nL : Nat) (b L : Nat) (xs : Nat → Int32) (as : List Value) (Post : Int → Prop) : Prop :=
  Met l y (wsy y cc nL (some .int)) (rmm 0 0 0) (va_Pc as (fun U => WoS D cs b L xs U)) (va_Qi (fun r (u : Int) => r = iI u ∧ Post u) (fun _ _ => True) (fun _ => False)) 0 0 (fun _ => False)
theorem CS.of {l : Launch} {D : va_G} {cs : Nat → ClassId} {y : MethodName} {cc : ByteArray} {nL b L : Nat} {xs : Nat → Int32} {as : List Value} {Post : Int → Prop} (hy : plainName y.cls = true) (ho : y.cls = "FlowNetworkLaw") (hlen : (lg_sl as).length ≤ nL)
    (body : ∀ (p : Program) (e : Env) (s : State) (m : MethodId) (args : Array Value) (below : List Frame) (meth : Method) (c : Code), Cx p s m args meth c cc nL "FlowNetworkLaw" → va_X b L xs s s.heap → b < s.heap.size → meth.sig.returnType = some .int →
      ∀ (σ : Mem) (ad : Ix → Nat), Wx p l e (rmm 0 0 0) s m args below meth c D cs [] ad (fun _ => False) s.heap nL (MQ below (va_Qi (fun r (u : Int) => r = iI u ∧ Post u) (fun _ _ => True) (fun _ => False)) args s 0 0 (fun _ => False)) 0 0 σ 0 (entryLo as nL) []) : CS l D cs y cc nL b L xs as Post := by
  refine Met.ofW (cc := cc) (maxL := nL) (ret := some .int) hy rfl ?_
  intro p e s m args below meth c s₁ B hml hv
  obtain ⟨rfl, ⟨hK, hN, hX⟩, hx, hb⟩ := hv
  have hts := atoms_spec (ws := wsy y cc nL (some .int)) B.pre
  have hown : s.vm.findClass "FlowNetworkLaw" = some m.cls := ho ▸ findClass_of_methodNamed B.named
  rw [lg_entry_eq]
  exact body p e s m as.toArray below meth c ⟨B.exec, B.bytes, hml, hown, fun w hw => hts w (List.mem_cons_of_mem _ hw), B.notSynchronized⟩ hx hb B.returns (fun _ _ => 0) (fun _ => 0) s.heap [] _ (fun _ h => by cases h) va_S.rf (lo_entry as hlen)
/-- a method of the law that calls the class -/
def WoB (D : va_G) (cs : Nat → ClassId) (ad : Ix → Nat) (sz b L : Nat) (xs : Nat → Int32) (σ : Mem) (U : State) : Prop := WoX D cs idsA ad sz σ U ∧ va_X b L xs U U.heap ∧ b < sz ∧ ¬ RgN idsA ad sz b
def CB (l : Launch) (D : va_G) (cs : Nat → ClassId) (ad : Ix → Nat) (y : MethodName) (cc : ByteArray) (nL h mc ms sz b L : Nat) (xs : Nat → Int32) (as : List Value) (σ : Mem) (Post : Int → Mem → Prop) : Prop :=
  Met l y (wsy y cc nL (some .boolean)) (rmm h mc ms) (va_Pc as (fun U => WoB D cs ad sz b L xs σ U)) (qXI D cs idsA ad sz Post) mc ms (RgN idsA ad sz)
theorem CB.of {l : Launch} {D : va_G} {cs : Nat → ClassId} {ad : Ix → Nat} {y : MethodName} {cc : ByteArray} {nL h mc ms sz b L : Nat} {xs : Nat → Int32} {as : List Value} {σ : Mem} {Post : Int → Mem → Prop} (hap : Apart idsA ad) (hy : plainName y.cls = true) (ho : y.cls = "FlowNetworkLaw") (hlen : (lg_sl as).length ≤ nL)
    (body : ∀ (p : Program) (e : Env) (s : State) (m : MethodId) (args : Array Value) (below : List Frame) (meth : Method) (c : Code), Cx p s m args meth c cc nL "FlowNetworkLaw" → Kx D cs idsA ad (RgN idsA ad sz) s → Zx (RgN idsA ad sz) s → (∀ q, s.heap.size ≤ q → RgN idsA ad sz q) → va_X b L xs s s.heap → b < s.heap.size → ¬ RgN idsA ad sz b → meth.sig.returnType = some .boolean →
      Wx p l e (rmm h mc ms) s m args below meth c D cs idsA ad (RgN idsA ad sz) s.heap nL (MQ below (qXI D cs idsA ad sz Post) args s mc ms (RgN idsA ad sz)) 0 0 σ 0 (entryLo as nL) []) : CB l D cs ad y cc nL h mc ms sz b L xs as σ Post := by
  refine Met.ofW (cc := cc) (maxL := nL) (ret := some .boolean) hy rfl ?_
  intro p e s m args below meth c s₁ B hml hv
  obtain ⟨rfl, ⟨⟨hP, hK, hN, hX⟩, hsz, hZ⟩, hx, hb, hbA⟩ := hv
  have hts := atoms_spec (ws := wsy y cc nL (some .boolean)) B.pre
  have hown : s.vm.findClass "FlowNetworkLaw" = some m.cls := ho ▸ findClass_of_methodNamed B.named
  rw [lg_entry_eq]
  exact body p e s m as.toArray below meth c ⟨B.exec, B.bytes, hml, hown, fun w hw => hts w (List.mem_cons_of_mem _ hw), B.notSynchronized⟩ ⟨hK, hap, fun i hi => Or.inl ⟨i, hi, rfl⟩, idsA_nd, hN, hX⟩ hZ (fun q hq => Or.inr (by omega)) hx (by omega) hbA B.returns s.heap [] _ hP va_S.rf (lo_entry as hlen)
section ZLB
variable {p : Program} {l : Launch} {e : Env} {R : Room} {s : State} {m : MethodId} {args : Array Value} {below : List Frame} {meth : Method} {c : Code} {D : va_G} {cs : Nat → ClassId} {ids : List Ix} {ad : Ix → Nat} {A : Nat → Prop} {nL : Nat} {Q : State → Prop} {mc ms sz : Nat} {σ : Mem} {pc : Nat} {lo : List (Option Value)} {st : List Value} {cc : ByteArray} {own : String}
theorem zr_sret (X : Cx p s m args meth c cc nL own) {Post : Int → Prop} {z : Int} (hr : meth.sig.returnType = some .int) (d : decode cc pc = .ok (.ireturn, 1)) (h : Post z) : Wx p l e R s m args below meth c D cs [] ad (fun _ => False) s.heap nL (MQ below (va_Qi (fun r (u : Int) => r = iI u ∧ Post u) (fun _ _ => True) (fun _ => False)) args s 0 0 (fun _ => False)) 0 0 σ pc lo [jI z] := fun H locs ls hP hS hl =>
  W.iret X.1 X.2.1 hr (fun t ht _ => ⟨⟨iI z, z, rfl, ⟨rfl, h⟩, trivial⟩, hS.F ht⟩) hS.2.2 d X.2.2.2.2.2
theorem zr_bret (X : Cx p s m args meth c cc nL own) {Post : Int → Mem → Prop} {mc' ms' : Nat} {z : Int} (hm : mc ≤ mc' ∧ ms ≤ ms') (hr : meth.sig.returnType = some .boolean) (d : decode cc pc = .ok (.ireturn, 1)) (hz : z = 0 ∨ z = 1) (h : Post z σ) : Wx p l e R s m args below meth c D cs idsA ad (RgN idsA ad sz) s.heap nL (MQ below (qXI D cs idsA ad sz Post) args s mc' ms' (RgN idsA ad sz)) mc ms σ pc lo [jI z] := fun H locs ls hP hS hl =>
  W.widen hm.1 hm.2 (W.zret X.1 X.2.1 hr (by rcases hz with rfl | rfl <;> rfl) (fun t ht _ => ⟨⟨iI z, (z, σ), rfl, ⟨rfl, h⟩, (by show Pic D cs idsA ad σ t.heap; rw [ht]; exact hP)⟩, hS.F ht⟩) hS.2.2 d X.2.2.2.2.2)
/-- the law reads the script -/
theorem zr_lscr (X : Cx p s m args meth c cc nL own) (K : Kx D cs ids ad A s) {b L : Nat} {xs : Nat → Int32} (hX : va_X b L xs s s.heap) (hbl : b < s.heap.size) (hbA : ¬ A b) {y : MethodName} {bytes : ByteArray} {maxL index n : Nat} {As st1 : List Value} {Post : Int → Prop} (hC : CS l D cs y bytes maxL b L xs As Post) (Lk : lkS own index y bytes maxL (some .int)) (hd : dcl y n) (hst : st1 = As.reverse ++ st) (hn : As.length = n) (hW : (st.map fun v => v.category).sum ≤ 8) (hR : 0 + 1 ≤ R.frames ∧ 8 + (maxL + 11) + (100 + 28 * 0) ≤ R.locals) (hR2 : mc ≤ R.cells ∧ ms ≤ R.slots) (d : decode cc pc = .ok (.invokestatic index, 3))
    (kk : ∀ (z : Int), Post z → Wx p l e R s m args below meth c D cs ids ad A s.heap nL Q mc ms σ (pc + 3) lo (jI z :: st)) : Wx p l e R s m args below meth c D cs ids ad A s.heap nL Q mc ms σ pc lo st1 := fun H locs ls hP hS hl => by
  subst hst
  have hpre : PreS s H (va_Pc As (fun U => WoS D cs b L xs U)) As := ⟨fun a U g mk q => ⟨q.1, ⟨va_K.moved (u := U) (U := U.calling g mk a) (Vm.Alike.refl U.vm) q.2.1.1, q.2.1.2.1.same (u := U) (U := U.calling g mk a) rfl, q.2.1.2.2.same (u := U) (U := U.calling g mk a) rfl⟩, va_X.moved (u := U) (U := U.calling g mk a) (Vm.Alike.refl U.vm) q.2.2.1, q.2.2.2⟩, fun U hU hW => ⟨rfl, ⟨va_K.moved hW.alike K.1, K.2.2.2.2.1.warm hW, K.2.2.2.2.2.warm hW⟩, by rw [hU]; exact va_X.moved hW.alike (hX.kept (hS.2.1 b hbl hbA)), by rw [hU]; exact Nat.lt_of_lt_of_le hbl hS.1⟩⟩
  refine va_calli (mc := 0) (ms := 0) (va_runS (As := As) (rest := st) ⟨X.1, X.2.1, X.2.2.1, X.2.2.2.1, X.2.2.2.2.1⟩ hC (cb_S X Lk hd hR) hpre rfl hn hl.1 rfl (by show 2 * 0 + _ ≤ 8; omega) d hR2) hS (fun q _ h => h.elim) (fun q h => h.elim) (fun r u t H1 locs1 ht _ hw hB _ hk1 hS1 => ?_)
  obtain ⟨rfl, hp⟩ := hw
  exact kk u hp H1 locs1 ls (pic_keep hP fun q hq => hk1 q hq (fun h => h)) hS1 hl
/-- the law's body calls what lays the network -/
theorem zr_lbld (X : Cx p s m args meth c cc nL own) (K : Kx D cs idsA ad A s) (hZ : Zx A s) (hA : ∀ q, s.heap.size ≤ q → A q) {b L : Nat} {xs : Nat → Int32} (hX : va_X b L xs s s.heap) (hbl : b < s.heap.size) (hbA : ¬ A b) {y : MethodName} {bytes : ByteArray} {maxL index n h mc' ms' : Nat} {As st1 : List Value} {Post : Int → Mem → Prop} (hC : ∀ sz', CB l D cs ad y bytes maxL h mc' ms' sz' b L xs As σ Post) (Lk : lkS own index y bytes maxL (some .boolean)) (hd : dcl y n) (hst : st1 = As.reverse ++ st) (hn : As.length = n) (hW : (st.map fun v => v.category).sum ≤ 8) (hR : h + 1 ≤ R.frames ∧ 8 + (maxL + 11) + (100 + 28 * h) ≤ R.locals) (hR2 : mc + mc' ≤ R.cells ∧ ms + ms' ≤ R.slots) (d : decode cc pc = .ok (.invokestatic index, 3))
    (kk : ∀ (z : Int) (τ : Mem), Post z τ → Wx p l e R s m args below meth c D cs idsA ad A s.heap nL Q (mc + mc') (ms + ms') τ (pc + 3) lo (jI z :: st)) : Wx p l e R s m args below meth c D cs idsA ad A s.heap nL Q mc ms σ pc lo st1 := fun H locs ls hP hS hl => by
  subst hst
  have hup : ∀ q, RgN idsA ad H.size q → A q := fun q h => h.elim (fun ⟨i, hi, e⟩ => e ▸ K.2.2.1 i hi) (fun h => hA q (Nat.le_trans hS.1 h))
  have hpre : PreS s H (va_Pc As (fun U => WoB D cs ad H.size b L xs σ U)) As := ⟨fun a U g mk q => ⟨q.1, ⟨Wo.same (u := U) (U := U.calling g mk a) rfl rfl q.2.1.1, q.2.1.2.1, Zx_same (u := U) (U := U.calling g mk a) rfl rfl q.2.1.2.2⟩, va_X.moved (u := U) (U := U.calling g mk a) (Vm.Alike.refl U.vm) q.2.2.1, q.2.2.2⟩, fun U hU hW => ⟨rfl, ⟨⟨by rw [hU]; exact hP, va_K.moved hW.alike K.1, K.2.2.2.2.1.warm hW, K.2.2.2.2.2.warm hW⟩, by rw [hU], Zx_to hZ hS hU hW hup⟩, by rw [hU]; exact va_X.moved hW.alike (hX.kept (hS.2.1 b hbl hbA)), Nat.lt_of_lt_of_le hbl hS.1, fun g => hbA (hup b g)⟩⟩
  refine va_calli (va_runS (As := As) (rest := st) ⟨X.1, X.2.1, X.2.2.1, X.2.2.2.1, X.2.2.2.2.1⟩ (hC H.size) (cb_S X Lk hd hR) hpre rfl hn hl.1 rfl (by show 2 * 0 + _ ≤ 8; omega) d hR2) hS (fun q _ h => hup q h) hup (fun r u t H1 locs1 ht _ hw hB _ hk1 hS1 => ?_)
  obtain ⟨rfl, hp⟩ := hw
  exact kk u.1 u.2 hp H1 locs1 ls (by rw [← ht]; exact hB) hS1 hl
end ZLB
