/-! contracts over the world of numbered cells, and their calls -/
def rmm (h mc ms : Nat) : Room := { frames := h, cells := mc, slots := ms, locals := 100 + 28 * h }
abbrev wsy (y : MethodName) (cc : ByteArray) (nL : Nat) (ret : Option FieldType) : List Cond := .code y cc nL ret :: TB
abbrev qI (D : va_G) (cs : Nat → ClassId) (ids : List Ix) (ad : Ix → Nat) (Post : Int → Mem → Prop) : Array Value → State → Outcome → State → Prop := va_Qi (fun r (u : Int × Mem) => r = iI u.1 ∧ Post u.1 u.2) (fun u t => Pic D cs ids ad u.2 t.heap) (Rg ids ad)
abbrev qV (D : va_G) (cs : Nat → ClassId) (ids : List Ix) (ad : Ix → Nat) (Post : Mem → Prop) : Array Value → State → Outcome → State → Prop := va_Qv (fun (u : Mem) => Post u) (fun u t => Pic D cs ids ad u t.heap) (Rg ids ad)
/-- a method that makes nothing and answers with a whole number (or a truth value) -/
def CI (l : Launch) (D : va_G) (cs : Nat → ClassId) (ids : List Ix) (ad : Ix → Nat) (y : MethodName) (cc : ByteArray) (nL : Nat) (ret : FieldType) (h : Nat) (as : List Value) (σ : Mem) (Post : Int → Mem → Prop) : Prop :=
  Met l y (wsy y cc nL (some ret)) (rmm h 0 0) (va_Pc as (fun U => Wo D cs ids ad σ U)) (qI D cs ids ad Post) 0 0 (Rg ids ad)
def CV (l : Launch) (D : va_G) (cs : Nat → ClassId) (ids : List Ix) (ad : Ix → Nat) (y : MethodName) (cc : ByteArray) (nL : Nat) (h : Nat) (as : List Value) (σ : Mem) (Post : Mem → Prop) : Prop :=
  Met l y (wsy y cc nL none) (rmm h 0 0) (va_Pc as (fun U => Wo D cs ids ad σ U)) (qV D cs ids ad Post) 0 0 (Rg ids ad)
theorem CI.of {l : Launch} {D : va_G} {cs : Nat → ClassId} {ids : List Ix} {ad : Ix → Nat} {y : MethodName} {cc : ByteArray} {nL h : Nat} {ret : FieldType} {as : List Value} {σ : Mem} {Post : Int → Mem → Prop} (own : String) (hap : Apart ids ad) (hnd : ids.Nodup) (hy : plainName y.cls = true) (ho : y.cls = own) (hlen : (lg_sl as).length ≤ nL)
    (body : ∀ (p : Program) (e : Env) (s : State) (m : MethodId) (args : Array Value) (below : List Frame) (meth : Method) (c : Code), Cx p s m args meth c cc nL own → Kx D cs ids ad (Rg ids ad) s → meth.sig.returnType = some ret →
      Wx p l e (rmm h 0 0) s m args below meth c D cs ids ad (Rg ids ad) s.heap nL (MQ below (qI D cs ids ad Post) args s 0 0 (Rg ids ad)) 0 0 σ 0 (entryLo as nL) []) : CI l D cs ids ad y cc nL ret h as σ Post := by
  refine Met.ofW (cc := cc) (maxL := nL) (ret := some ret) hy rfl ?_
  intro p e s m args below meth c s₁ B hml hv
  obtain ⟨rfl, hP, hK, hN, hX⟩ := hv
  have hts := atoms_spec (ws := wsy y cc nL (some ret)) B.pre
  have hown : s.vm.findClass own = some m.cls := ho ▸ findClass_of_methodNamed B.named
  rw [lg_entry_eq]
  exact body p e s m as.toArray below meth c ⟨B.exec, B.bytes, hml, hown, fun w hw => hts w (List.mem_cons_of_mem _ hw), B.notSynchronized⟩ ⟨hK, hap, fun i hi => ⟨i, hi, rfl⟩, hnd, hN, hX⟩ B.returns s.heap [] _ hP va_S.rf (lo_entry as hlen)
theorem CV.of {l : Launch} {D : va_G} {cs : Nat → ClassId} {ids : List Ix} {ad : Ix → Nat} {y : MethodName} {cc : ByteArray} {nL h : Nat} {as : List Value} {σ : Mem} {Post : Mem → Prop} (own : String) (hap : Apart ids ad) (hnd : ids.Nodup) (hy : plainName y.cls = true) (ho : y.cls = own) (hlen : (lg_sl as).length ≤ nL)
    (body : ∀ (p : Program) (e : Env) (s : State) (m : MethodId) (args : Array Value) (below : List Frame) (meth : Method) (c : Code), Cx p s m args meth c cc nL own → Kx D cs ids ad (Rg ids ad) s → meth.sig.returnType = none →
      Wx p l e (rmm h 0 0) s m args below meth c D cs ids ad (Rg ids ad) s.heap nL (MQ below (qV D cs ids ad Post) args s 0 0 (Rg ids ad)) 0 0 σ 0 (entryLo as nL) []) : CV l D cs ids ad y cc nL h as σ Post := by
  refine Met.ofW (cc := cc) (maxL := nL) (ret := none) hy rfl ?_
  intro p e s m args below meth c s₁ B hml hv
  obtain ⟨rfl, hP, hK, hN, hX⟩ := hv
  have hts := atoms_spec (ws := wsy y cc nL none) B.pre
  have hown : s.vm.findClass own = some m.cls := ho ▸ findClass_of_methodNamed B.named
  rw [lg_entry_eq]
  exact body p e s m as.toArray below meth c ⟨B.exec, B.bytes, hml, hown, fun w hw => hts w (List.mem_cons_of_mem _ hw), B.notSynchronized⟩ ⟨hK, hap, fun i hi => ⟨i, hi, rfl⟩, hnd, hN, hX⟩ B.returns s.heap [] _ hP va_S.rf (lo_entry as hlen)
theorem CI.mono {l : Launch} {D : va_G} {cs : Nat → ClassId} {ids : List Ix} {ad : Ix → Nat} {y : MethodName} {cc : ByteArray} {nL h : Nat} {ret : FieldType} {as : List Value} {σ : Mem} {Post Post' : Int → Mem → Prop} (hC : CI l D cs ids ad y cc nL ret h as σ Post) (hp : ∀ z τ, Post z τ → Post' z τ) : CI l D cs ids ad y cc nL ret h as σ Post' := by
  intro p e h1 h2 h3 s m args below h4 h5 h6 h7
  obtain ⟨k, o, b1, b2, b3, ⟨⟨⟨r, u, q1, ⟨q2, q3⟩, q4⟩, q5⟩, q6⟩⟩ := hC p e h1 h2 h3 s m args below h4 h5 h6 h7
  exact ⟨k, o, b1, b2, b3, ⟨⟨r, u, q1, ⟨q2, hp _ _ q3⟩, q4⟩, q5⟩, q6⟩
section ZC
variable {p : Program} {l : Launch} {e : Env} {R : Room} {s : State} {m : MethodId} {args : Array Value} {below : List Frame} {meth : Method} {c : Code} {D : va_G} {cs : Nat → ClassId} {ids : List Ix} {ad : Ix → Nat} {A : Nat → Prop} {H0 : Heap} {nL : Nat} {Q : State → Prop} {mc ms : Nat} {σ : Mem} {pc : Nat} {lo : List (Option Value)} {st : List Value} {cc : ByteArray} {own : String}
theorem zr_iret (X : Cx p s m args meth c cc nL own) {Post : Int → Mem → Prop} {z : Int} (hr : meth.sig.returnType = some .int) (d : decode cc pc = .ok (.ireturn, 1)) (h : Post z σ) : Wx p l e R s m args below meth c D cs ids ad (Rg ids ad) s.heap nL (MQ below (qI D cs ids ad Post) args s 0 0 (Rg ids ad)) 0 0 σ pc lo [jI z] := fun H locs ls hP hS hl =>
  W.iret X.1 X.2.1 hr (fun t ht _ => ⟨⟨iI z, (z, σ), rfl, ⟨rfl, h⟩, (by show Pic D cs ids ad σ t.heap; rw [ht]; exact hP)⟩, hS.F ht⟩) hS.2.2 d X.2.2.2.2.2
theorem zr_zret (X : Cx p s m args meth c cc nL own) {Post : Int → Mem → Prop} {z : Int} (hr : meth.sig.returnType = some .boolean) (d : decode cc pc = .ok (.ireturn, 1)) (hz : z = 0 ∨ z = 1) (h : Post z σ) : Wx p l e R s m args below meth c D cs ids ad (Rg ids ad) s.heap nL (MQ below (qI D cs ids ad Post) args s 0 0 (Rg ids ad)) 0 0 σ pc lo [jI z] := fun H locs ls hP hS hl =>
  W.zret X.1 X.2.1 hr (by rcases hz with rfl | rfl <;> rfl) (fun t ht _ => ⟨⟨iI z, (z, σ), rfl, ⟨rfl, h⟩, (by show Pic D cs ids ad σ t.heap; rw [ht]; exact hP)⟩, hS.F ht⟩) hS.2.2 d X.2.2.2.2.2
theorem zr_vret (X : Cx p s m args meth c cc nL own) {Post : Mem → Prop} (hr : meth.sig.returnType = none) (d : decode cc pc = .ok (.return_, 1)) (h : Post σ) : Wx p l e R s m args below meth c D cs ids ad (Rg ids ad) s.heap nL (MQ below (qV D cs ids ad Post) args s 0 0 (Rg ids ad)) 0 0 σ pc lo [] := fun H locs ls hP hS hl =>
  W.vret X.1 X.2.1 hr (fun t ht _ => ⟨⟨σ, rfl, h, (by show Pic D cs ids ad σ t.heap; rw [ht]; exact hP)⟩, hS.F ht⟩) hS.2.2 d X.2.2.2.2.2
/-- the words of a call of a method of the same class, of a nest mate -/
def lkV (own : String) (idx : Nat) (y : MethodName) (bytes : ByteArray) (maxL : Nat) (ret : Option FieldType) : Prop := Cond.methodLink own idx y ∈ TB ∧ Cond.instanceMethod y ∈ TB ∧ Cond.selects y.cls y y ∈ TB ∧ Cond.initialized y.cls ∈ TB ∧ Cond.code y bytes maxL ret ∈ TB
def lkN (own host : String) (idx : Nat) (y : MethodName) (bytes : ByteArray) (maxL : Nat) (ret : Option FieldType) : Prop := Cond.methodLinkNest own idx y host ∈ NW ∧ Cond.instanceMethod y ∈ TB ∧ Cond.selects y.cls y y ∈ TB ∧ Cond.initialized y.cls ∈ TB ∧ Cond.code y bytes maxL ret ∈ TB
def lkS (own : String) (idx : Nat) (y : MethodName) (bytes : ByteArray) (maxL : Nat) (ret : Option FieldType) : Prop := Cond.methodLink own idx y ∈ TB ∧ Cond.static y ∈ TB ∧ Cond.initialized y.cls ∈ TB ∧ Cond.code y bytes maxL ret ∈ TB
def lkSN (own host : String) (idx : Nat) (y : MethodName) (bytes : ByteArray) (maxL : Nat) (ret : Option FieldType) : Prop := Cond.methodLinkNest own idx y host ∈ NW ∧ Cond.static y ∈ TB ∧ Cond.initialized y.cls ∈ TB ∧ Cond.code y bytes maxL ret ∈ TB
/-- the callee's name is plain, it takes n parameters, and the room holds it -/
def dcl (y : MethodName) (n : Nat) : Prop := y.cls ≠ "java/lang/invoke/MethodHandle" ∧ y.cls ≠ "java/lang/invoke/VarHandle" ∧ (parseMethodDescriptor y.desc).map (fun d => d.parameters.length) = some n
theorem wsy_in {y : MethodName} {bytes : ByteArray} {maxL : Nat} {ret : Option FieldType} (h : Cond.code y bytes maxL ret ∈ TB) : GoodIn TB (wsy y bytes maxL ret) := fun w hw => by
  have hm : w ∈ TB := (List.mem_cons.mp hw).elim (fun e => by rw [e]; exact h) id
  exact ⟨hm, good_of_word (TB_good hm)⟩
theorem cb_V (X : Cx p s m args meth c cc nL own) {y : MethodName} {bytes : ByteArray} {maxL index n h mc1 ms1 : Nat} {ret : Option FieldType} (L : lkV own index y bytes maxL ret) (hd : dcl y n) (hR : h + 1 ≤ R.frames ∧ 8 + (maxL + 11) + (100 + 28 * h) ≤ R.locals) : CallW R s args own y.cls index y bytes maxL ret (wsy y bytes maxL ret) (rmm h mc1 ms1) mc1 ms1 n :=
  ⟨callB_of n X.2.2.2.2.1 (wsy_in L.2.2.2.2) rfl rfl rfl (X.2.2.2.2.1 _ L.2.2.2.1) (X.2.2.2.2.1 _ L.1) hd hR, X.2.2.2.2.1 _ L.2.1, X.2.2.2.2.1 _ L.2.2.1⟩
theorem cb_S (X : Cx p s m args meth c cc nL own) {y : MethodName} {bytes : ByteArray} {maxL index n h mc1 ms1 : Nat} {ret : Option FieldType} (L : lkS own index y bytes maxL ret) (hd : dcl y n) (hR : h + 1 ≤ R.frames ∧ 8 + (maxL + 11) + (100 + 28 * h) ≤ R.locals) : CallB R s args own index y bytes maxL ret (wsy y bytes maxL ret) (rmm h mc1 ms1) mc1 ms1 n ∧ (Cond.static y).before args s = true :=
  ⟨callB_of n X.2.2.2.2.1 (wsy_in L.2.2.2) rfl rfl rfl (X.2.2.2.2.1 _ L.2.2.1) (X.2.2.2.2.1 _ L.1) hd hR, X.2.2.2.2.1 _ L.2.1⟩
theorem cb_N (X : Cx p s m args meth c cc nL own) (K : Kx D cs ids ad A s) {y : MethodName} {host : String} {bytes : ByteArray} {maxL index n h mc1 ms1 : Nat} {ret : Option FieldType} (L : lkN own host index y bytes maxL ret) (hd : dcl y n) (hR : h + 1 ≤ R.frames ∧ 8 + (maxL + 11) + (100 + 28 * h) ≤ R.locals) : va_CN R s args own index y host bytes maxL ret (wsy y bytes maxL ret) (rmm h mc1 ms1) mc1 ms1 n ∧ (Cond.instanceMethod y).before args s = true ∧ (Cond.selects y.cls y y).before args s = true :=
  ⟨va_cnB n X.2.2.2.2.1 (wsy_in L.2.2.2.2) rfl rfl rfl (K.2.2.2.2.1 _ L.1) (X.2.2.2.2.1 _ L.2.2.2.1) hd hR, X.2.2.2.2.1 _ L.2.1, X.2.2.2.2.1 _ L.2.2.1⟩
theorem cb_SN (X : Cx p s m args meth c cc nL own) (K : Kx D cs ids ad A s) {y : MethodName} {host : String} {bytes : ByteArray} {maxL index n h mc1 ms1 : Nat} {ret : Option FieldType} (L : lkSN own host index y bytes maxL ret) (hd : dcl y n) (hR : h + 1 ≤ R.frames ∧ 8 + (maxL + 11) + (100 + 28 * h) ≤ R.locals) : va_CN R s args own index y host bytes maxL ret (wsy y bytes maxL ret) (rmm h mc1 ms1) mc1 ms1 n ∧ (Cond.static y).before args s = true ∧ True :=
  ⟨va_cnB n X.2.2.2.2.1 (wsy_in L.2.2.2) rfl rfl rfl (K.2.2.2.2.1 _ L.1) (X.2.2.2.2.1 _ L.2.2.1) hd hR, X.2.2.2.2.1 _ L.2.1, trivial⟩
theorem pre_S (K : Kx D cs ids ad A s) {H : Heap} {As : List Value} (hP : Pic D cs ids ad σ H) : PreS s H (va_Pc As (fun U => Wo D cs ids ad σ U)) As :=
  ⟨fun a U g mk q => ⟨q.1, Wo.same (u := U) (U := U.calling g mk a) rfl rfl q.2⟩, fun U hU hW => ⟨rfl, by rw [hU]; exact hP, va_K.moved hW.alike K.1, K.2.2.2.2.1.warm hW, K.2.2.2.2.2.warm hW⟩⟩
theorem pre_V (K : Kx D cs ids ad A s) {H : Heap} {o : Ix} {ci : Nat} {q : vw_C} {fs : List Value} {As : List Value} (hP : Pic D cs ids ad σ H) (ho : o ∈ ids) (he : enc cs ad σ o = .inr (ci, fs)) (hc : vwCl[ci]? = some q) : PreV s H q.1 (ad o) (va_Pc (.ref (ad o) :: As) (fun U => Wo D cs ids ad σ U)) As :=
  ⟨fun a U g mk q => ⟨q.1, Wo.same (u := U) (U := U.calling g mk a) rfl rfl q.2⟩, va_recv K.1 (pic_one hP ho he) hc (q0 := 0) rfl, fun U hU hW => ⟨rfl, by rw [hU]; exact hP, va_K.moved hW.alike K.1, K.2.2.2.2.1.warm hW, K.2.2.2.2.2.warm hW⟩⟩
theorem Rg_in (K : Kx D cs ids ad A s) : ∀ q, Rg ids ad q → A q := fun q h => by
  obtain ⟨i, hi, rfl⟩ := h
  exact K.2.2.1 i hi
theorem zr_callVI (X : Cx p s m args meth c cc nL own) (K : Kx D cs ids ad A s) {y : MethodName} {bytes : ByteArray} {maxL index n h ci : Nat} {ret : FieldType} {o : Ix} {q : vw_C} {fs : List Value} {As st1 : List Value} {Post : Int → Mem → Prop} (hC : CI l D cs ids ad y bytes maxL ret h (.ref (ad o) :: As) σ Post) (L : lkV own index y bytes maxL (some ret)) (hd : dcl y n) (ho : o ∈ ids) (he : enc cs ad σ o = .inr (ci, fs)) (hc : vwCl[ci]? = some q) (hy : y.cls = q.1) (hst : st1 = As.reverse ++ .ref (ad o) :: st) (hn : As.length = n) (hW : (st.map fun v => v.category).sum ≤ 8) (hR : (h + 1 ≤ R.frames ∧ 8 + (maxL + 11) + (100 + 28 * h) ≤ R.locals) ∧ mc ≤ R.cells ∧ ms ≤ R.slots) (d : decode cc pc = .ok (.invokevirtual index, 3))
    (kk : ∀ (z : Int) (τ : Mem), Post z τ → Wx p l e R s m args below meth c D cs ids ad A H0 nL Q mc ms τ (pc + 3) lo (jI z :: st)) : Wx p l e R s m args below meth c D cs ids ad A H0 nL Q mc ms σ pc lo st1 := fun H locs ls hP hS hl => by
  subst hst
  refine va_calli (va_runV (As := As) (rest := st) (C := y.cls) ⟨X.1, X.2.1, X.2.2.1, X.2.2.2.1, X.2.2.2.2.1⟩ hC (cb_V X L hd hR.1) (by rw [hy]; exact pre_V K hP ho he hc) rfl hn hl.1 rfl (by show 2 * 0 + _ ≤ 8; omega) d hR.2) hS (fun q _ h => Rg_in K q h) (Rg_in K) (fun r u t H1 locs1 ht _ hw hB _ _ hS1 => ?_)
  obtain ⟨rfl, hp⟩ := hw
  exact kk u.1 u.2 hp H1 locs1 ls (by rw [← ht]; exact hB) hS1 hl
theorem zr_callVV (X : Cx p s m args meth c cc nL own) (K : Kx D cs ids ad A s) {y : MethodName} {bytes : ByteArray} {maxL index n h ci : Nat} {o : Ix} {q : vw_C} {fs : List Value} {As st1 : List Value} {Post : Mem → Prop} (hC : CV l D cs ids ad y bytes maxL h (.ref (ad o) :: As) σ Post) (L : lkV own index y bytes maxL none) (hd : dcl y n) (ho : o ∈ ids) (he : enc cs ad σ o = .inr (ci, fs)) (hc : vwCl[ci]? = some q) (hy : y.cls = q.1) (hst : st1 = As.reverse ++ .ref (ad o) :: st) (hn : As.length = n) (hW : (st.map fun v => v.category).sum ≤ 8) (hR : (h + 1 ≤ R.frames ∧ 8 + (maxL + 11) + (100 + 28 * h) ≤ R.locals) ∧ mc ≤ R.cells ∧ ms ≤ R.slots) (d : decode cc pc = .ok (.invokevirtual index, 3))
    (kk : ∀ (τ : Mem), Post τ → Wx p l e R s m args below meth c D cs ids ad A H0 nL Q mc ms τ (pc + 3) lo st) : Wx p l e R s m args below meth c D cs ids ad A H0 nL Q mc ms σ pc lo st1 := fun H locs ls hP hS hl => by
  subst hst
  refine va_callv (va_runV (As := As) (rest := st) (C := y.cls) ⟨X.1, X.2.1, X.2.2.1, X.2.2.2.1, X.2.2.2.2.1⟩ hC (cb_V X L hd hR.1) (by rw [hy]; exact pre_V K hP ho he hc) rfl hn hl.1 rfl (by show 2 * 0 + _ ≤ 8; omega) d hR.2) hS (fun q _ h => Rg_in K q h) (Rg_in K) (fun u t H1 locs1 ht _ hw hB _ _ hS1 => ?_)
  exact kk u hw H1 locs1 ls (by rw [← ht]; exact hB) hS1 hl
theorem zr_callNI (X : Cx p s m args meth c cc nL own) (K : Kx D cs ids ad A s) {y : MethodName} {host : String} {bytes : ByteArray} {maxL index n h ci : Nat} {ret : FieldType} {o : Ix} {q : vw_C} {fs : List Value} {As st1 : List Value} {Post : Int → Mem → Prop} (hC : CI l D cs ids ad y bytes maxL ret h (.ref (ad o) :: As) σ Post) (L : lkN own host index y bytes maxL (some ret)) (hd : dcl y n) (ho : o ∈ ids) (he : enc cs ad σ o = .inr (ci, fs)) (hc : vwCl[ci]? = some q) (hy : y.cls = q.1) (hst : st1 = As.reverse ++ .ref (ad o) :: st) (hn : As.length = n) (hW : (st.map fun v => v.category).sum ≤ 8) (hR : (h + 1 ≤ R.frames ∧ 8 + (maxL + 11) + (100 + 28 * h) ≤ R.locals) ∧ mc ≤ R.cells ∧ ms ≤ R.slots) (d : decode cc pc = .ok (.invokevirtual index, 3))
    (kk : ∀ (z : Int) (τ : Mem), Post z τ → Wx p l e R s m args below meth c D cs ids ad A H0 nL Q mc ms τ (pc + 3) lo (jI z :: st)) : Wx p l e R s m args below meth c D cs ids ad A H0 nL Q mc ms σ pc lo st1 := fun H locs ls hP hS hl => by
  subst hst
  refine va_calli (va_runVN (As := As) (rest := st) (C := y.cls) ⟨X.1, X.2.1, X.2.2.1, X.2.2.2.1, X.2.2.2.2.1⟩ hC (cb_N X K L hd hR.1) (by rw [hy]; exact pre_V K hP ho he hc) rfl hn hl.1 rfl (by show 2 * 0 + _ ≤ 8; omega) d hR.2) hS (fun q _ h => Rg_in K q h) (Rg_in K) (fun r u t H1 locs1 ht _ hw hB _ _ hS1 => ?_)
  obtain ⟨rfl, hp⟩ := hw
  exact kk u.1 u.2 hp H1 locs1 ls (by rw [← ht]; exact hB) hS1 hl
theorem zr_callNV (X : Cx p s m args meth c cc nL own) (K : Kx D cs ids ad A s) {y : MethodName} {host : String} {bytes : ByteArray} {maxL index n h ci : Nat} {o : Ix} {q : vw_C} {fs : List Value} {As st1 : List Value} {Post : Mem → Prop} (hC : CV l D cs ids ad y bytes maxL h (.ref (ad o) :: As) σ Post) (L : lkN own host index y bytes maxL none) (hd : dcl y n) (ho : o ∈ ids) (he : enc cs ad σ o = .inr (ci, fs)) (hc : vwCl[ci]? = some q) (hy : y.cls = q.1) (hst : st1 = As.reverse ++ .ref (ad o) :: st) (hn : As.length = n) (hW : (st.map fun v => v.category).sum ≤ 8) (hR : (h + 1 ≤ R.frames ∧ 8 + (maxL + 11) + (100 + 28 * h) ≤ R.locals) ∧ mc ≤ R.cells ∧ ms ≤ R.slots) (d : decode cc pc = .ok (.invokevirtual index, 3))
    (kk : ∀ (τ : Mem), Post τ → Wx p l e R s m args below meth c D cs ids ad A H0 nL Q mc ms τ (pc + 3) lo st) : Wx p l e R s m args below meth c D cs ids ad A H0 nL Q mc ms σ pc lo st1 := fun H locs ls hP hS hl => by
  subst hst
  refine va_callv (va_runVN (As := As) (rest := st) (C := y.cls) ⟨X.1, X.2.1, X.2.2.1, X.2.2.2.1, X.2.2.2.2.1⟩ hC (cb_N X K L hd hR.1) (by rw [hy]; exact pre_V K hP ho he hc) rfl hn hl.1 rfl (by show 2 * 0 + _ ≤ 8; omega) d hR.2) hS (fun q _ h => Rg_in K q h) (Rg_in K) (fun u t H1 locs1 ht _ hw hB _ _ hS1 => ?_)
  exact kk u hw H1 locs1 ls (by rw [← ht]; exact hB) hS1 hl
theorem zr_callSI (X : Cx p s m args meth c cc nL own) (K : Kx D cs ids ad A s) {y : MethodName} {bytes : ByteArray} {maxL index n h : Nat} {ret : FieldType} {As st1 : List Value} {Post : Int → Mem → Prop} (hC : CI l D cs ids ad y bytes maxL ret h As σ Post) (L : lkS own index y bytes maxL (some ret)) (hd : dcl y n) (hst : st1 = As.reverse ++ st) (hn : As.length = n) (hW : (st.map fun v => v.category).sum ≤ 8) (hR : (h + 1 ≤ R.frames ∧ 8 + (maxL + 11) + (100 + 28 * h) ≤ R.locals) ∧ mc ≤ R.cells ∧ ms ≤ R.slots) (d : decode cc pc = .ok (.invokestatic index, 3))
    (kk : ∀ (z : Int) (τ : Mem), Post z τ → Wx p l e R s m args below meth c D cs ids ad A H0 nL Q mc ms τ (pc + 3) lo (jI z :: st)) : Wx p l e R s m args below meth c D cs ids ad A H0 nL Q mc ms σ pc lo st1 := fun H locs ls hP hS hl => by
  subst hst
  refine va_calli (va_runS (As := As) (rest := st) ⟨X.1, X.2.1, X.2.2.1, X.2.2.2.1, X.2.2.2.2.1⟩ hC (cb_S X L hd hR.1) (pre_S K hP) rfl hn hl.1 rfl (by show 2 * 0 + _ ≤ 8; omega) d hR.2) hS (fun q _ h => Rg_in K q h) (Rg_in K) (fun r u t H1 locs1 ht _ hw hB _ _ hS1 => ?_)
  obtain ⟨rfl, hp⟩ := hw
  exact kk u.1 u.2 hp H1 locs1 ls (by rw [← ht]; exact hB) hS1 hl
theorem zr_callSV (X : Cx p s m args meth c cc nL own) (K : Kx D cs ids ad A s) {y : MethodName} {bytes : ByteArray} {maxL index n h : Nat} {As st1 : List Value} {Post : Mem → Prop} (hC : CV l D cs ids ad y bytes maxL h As σ Post) (L : lkS own index y bytes maxL none) (hd : dcl y n) (hst : st1 = As.reverse ++ st) (hn : As.length = n) (hW : (st.map fun v => v.category).sum ≤ 8) (hR : (h + 1 ≤ R.frames ∧ 8 + (maxL + 11) + (100 + 28 * h) ≤ R.locals) ∧ mc ≤ R.cells ∧ ms ≤ R.slots) (d : decode cc pc = .ok (.invokestatic index, 3))
    (kk : ∀ (τ : Mem), Post τ → Wx p l e R s m args below meth c D cs ids ad A H0 nL Q mc ms τ (pc + 3) lo st) : Wx p l e R s m args below meth c D cs ids ad A H0 nL Q mc ms σ pc lo st1 := fun H locs ls hP hS hl => by
  subst hst
  refine va_callv (va_runS (As := As) (rest := st) ⟨X.1, X.2.1, X.2.2.1, X.2.2.2.1, X.2.2.2.2.1⟩ hC (cb_S X L hd hR.1) (pre_S K hP) rfl hn hl.1 rfl (by show 2 * 0 + _ ≤ 8; omega) d hR.2) hS (fun q _ h => Rg_in K q h) (Rg_in K) (fun u t H1 locs1 ht _ hw hB _ _ hS1 => ?_)
  exact kk u hw H1 locs1 ls (by rw [← ht]; exact hB) hS1 hl
theorem zr_callSNI (X : Cx p s m args meth c cc nL own) (K : Kx D cs ids ad A s) {y : MethodName} {host : String} {bytes : ByteArray} {maxL index n h : Nat} {ret : FieldType} {As st1 : List Value} {Post : Int → Mem → Prop} (hC : CI l D cs ids ad y bytes maxL ret h As σ Post) (L : lkSN own host index y bytes maxL (some ret)) (hd : dcl y n) (hst : st1 = As.reverse ++ st) (hn : As.length = n) (hW : (st.map fun v => v.category).sum ≤ 8) (hR : (h + 1 ≤ R.frames ∧ 8 + (maxL + 11) + (100 + 28 * h) ≤ R.locals) ∧ mc ≤ R.cells ∧ ms ≤ R.slots) (d : decode cc pc = .ok (.invokestatic index, 3))
    (kk : ∀ (z : Int) (τ : Mem), Post z τ → Wx p l e R s m args below meth c D cs ids ad A H0 nL Q mc ms τ (pc + 3) lo (jI z :: st)) : Wx p l e R s m args below meth c D cs ids ad A H0 nL Q mc ms σ pc lo st1 := fun H locs ls hP hS hl => by
  subst hst
  refine va_calli (va_runSN (As := As) (rest := st) ⟨X.1, X.2.1, X.2.2.1, X.2.2.2.1, X.2.2.2.2.1⟩ hC (cb_SN X K L hd hR.1) (pre_S K hP) rfl hn hl.1 rfl (by show 2 * 0 + _ ≤ 8; omega) d hR.2) hS (fun q _ h => Rg_in K q h) (Rg_in K) (fun r u t H1 locs1 ht _ hw hB _ _ hS1 => ?_)
  obtain ⟨rfl, hp⟩ := hw
  exact kk u.1 u.2 hp H1 locs1 ls (by rw [← ht]; exact hB) hS1 hl
end ZC
