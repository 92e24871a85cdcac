/-! METHODS THAT MAY THROW -/
/-- what a throwing method may change: its world's cells, and those that are new -/
def RgN (ids : List Ix) (ad : Ix → Nat) (sz : Nat) : Nat → Prop := fun q => Rg ids ad q ∨ sz ≤ q
def Zx (A : Nat → Prop) (U : State) : Prop := vx_Zq Bundle.tN "UNASSIGNED_STACK" Bundle.steD A U U.heap ∧ vx_Zq Bundle.tN "SUPPRESSED_SENTINEL" Bundle.listD A U U.heap
def WoX (D : va_G) (cs : Nat → ClassId) (ids : List Ix) (ad : Ix → Nat) (sz : Nat) (σ : Mem) (U : State) : Prop := Wo D cs ids ad σ U ∧ U.heap.size = sz ∧ Zx (RgN ids ad sz) U
abbrev ISE : String := "java/lang/IllegalStateException"
abbrev IOB : String := "java/lang/IndexOutOfBoundsException"
abbrev IAE : String := "java/lang/IllegalArgumentException"
abbrev xI (D : va_G) (cs : Nat → ClassId) (ids : List Ix) (ad : Ix → Nat) (sz : Nat) (σ : Mem) (XP : String → Prop) : String → State → State → Prop := vx_X XP (fun E (u : String) t => E = u ∧ Pic D cs ids ad σ t.heap) (RgN ids ad sz)
abbrev qXI (D : va_G) (cs : Nat → ClassId) (ids : List Ix) (ad : Ix → Nat) (sz : Nat) (Post : Int → Mem → Prop) : Array Value → State → Outcome → State → Prop := va_Qi (fun r (u : Int × Mem) => r = iI u.1 ∧ Post u.1 u.2) (fun u t => Pic D cs ids ad u.2 t.heap) (RgN ids ad sz)
abbrev qXV (D : va_G) (cs : Nat → ClassId) (ids : List Ix) (ad : Ix → Nat) (sz : Nat) (Post : Mem → Prop) : Array Value → State → Outcome → State → Prop := va_Qv (fun (u : Mem) => Post u) (fun u t => Pic D cs ids ad u t.heap) (RgN ids ad sz)
abbrev qXD (D : va_G) (cs : Nat → ClassId) (ids : List Ix) (ad : Ix → Nat) (sz : Nat) (Post : UInt64 → Mem → Prop) : Array Value → State → Outcome → State → Prop := va_Qd (fun r (u : UInt64 × Mem) => r = u.1 ∧ Post u.1 u.2) (fun u t => Pic D cs ids ad u.2 t.heap) (RgN ids ad sz)
/-- a method that answers with a whole number, or throws an exception E with XP E and changes nothing -/
def CXI (l : Launch) (D : va_G) (cs : Nat → ClassId) (ids : List Ix) (ad : Ix → Nat) (y : MethodName) (cc : ByteArray) (nL : Nat) (ret : FieldType) (h mc ms sz : Nat) (as : List Value) (σ : Mem) (Post : Int → Mem → Prop) (XP : String → Prop) : Prop :=
  vx_Met l y (wsy y cc nL (some ret)) (rmm h mc ms) (va_Pc as (fun U => WoX D cs ids ad sz σ U)) (qXI D cs ids ad sz Post) (xI D cs ids ad sz σ XP) mc ms (RgN ids ad sz)
def CXV (l : Launch) (D : va_G) (cs : Nat → ClassId) (ids : List Ix) (ad : Ix → Nat) (y : MethodName) (cc : ByteArray) (nL : Nat) (h mc ms sz : Nat) (as : List Value) (σ : Mem) (Post : Mem → Prop) (XP : String → Prop) : Prop :=
  vx_Met l y (wsy y cc nL none) (rmm h mc ms) (va_Pc as (fun U => WoX D cs ids ad sz σ U)) (qXV D cs ids ad sz Post) (xI D cs ids ad sz σ XP) mc ms (RgN ids ad sz)
def CXD (l : Launch) (D : va_G) (cs : Nat → ClassId) (ids : List Ix) (ad : Ix → Nat) (y : MethodName) (cc : ByteArray) (nL : Nat) (h mc ms sz : Nat) (as : List Value) (σ : Mem) (Post : UInt64 → Mem → Prop) (XP : String → Prop) : Prop :=
  vx_Met l y (wsy y cc nL (some .double)) (rmm h mc ms) (va_Pc as (fun U => WoX D cs ids ad sz σ U)) (qXD D cs ids ad sz Post) (xI D cs ids ad sz σ XP) mc ms (RgN ids ad sz)
/-- what a walk of a throwing method has at hand -/
def Tx (ids : List Ix) (ad : Ix → Nat) (sz : Nat) (s : State) (c : Code) (l : Launch) : Prop := Zx (RgN ids ad sz) s ∧ s.heap.size = sz ∧ (∀ x ∈ c.exceptionTable.toList, False) ∧ l.stackTraces = false
theorem CXI.of {l : Launch} {D : va_G} {cs : Nat → ClassId} {ids : List Ix} {ad : Ix → Nat} {y : MethodName} {cc : ByteArray} {nL h mc ms sz : Nat} {ret : FieldType} {as : List Value} {σ : Mem} {Post : Int → Mem → Prop} {XP : String → Prop} (own : String) (hl : l.stackTraces = false) (hap : Apart ids ad) (hnd : ids.Nodup) (hy : plainName y.cls = true) (ho : y.cls = own) (hlen : (lg_sl as).length ≤ nL)
    (body : ∀ (p : Program) (e : Env) (s : State) (m : MethodId) (args : Array Value) (below : List Frame) (meth : Method) (c : Code), Cx p s m args meth c cc nL own → Kx D cs ids ad (RgN ids ad sz) s → Tx ids ad sz s c l → meth.sig.returnType = some ret →
      Wx p l e (rmm h mc ms) s m args below meth c D cs ids ad (RgN ids ad sz) s.heap nL (vx_MQ below (qXI D cs ids ad sz Post) (xI D cs ids ad sz σ XP) args s mc ms (RgN ids ad sz)) 0 0 σ 0 (entryLo as nL) []) : CXI l D cs ids ad y cc nL ret h mc ms sz as σ Post XP := by
  refine vx_ofW (cc := cc) (maxL := nL) (ret := some ret) hy rfl ?_
  intro p e s m args below meth c s₁ B hml ht hv
  obtain ⟨rfl, ⟨hP, hK, hN, hX⟩, hsz, hZ⟩ := hv
  have hts := atoms_spec (ws := wsy y cc nL (some ret)) B.pre
  have hown : s.vm.findClass own = some m.cls := ho ▸ findClass_of_methodNamed B.named
  rw [lg_entry_eq]
  exact body p e s m as.toArray below meth c ⟨B.exec, B.bytes, hml, hown, fun w hw => hts w (List.mem_cons_of_mem _ hw), B.notSynchronized⟩ ⟨hK, hap, fun i hi => Or.inl ⟨i, hi, rfl⟩, hnd, hN, hX⟩ ⟨hZ, hsz, ht, hl⟩ B.returns s.heap [] _ hP va_S.rf (lo_entry as hlen)
theorem CXV.of {l : Launch} {D : va_G} {cs : Nat → ClassId} {ids : List Ix} {ad : Ix → Nat} {y : MethodName} {cc : ByteArray} {nL h mc ms sz : Nat} {as : List Value} {σ : Mem} {Post : Mem → Prop} {XP : String → Prop} (own : String) (hl : l.stackTraces = false) (hap : Apart ids ad) (hnd : ids.Nodup) (hy : plainName y.cls = true) (ho : y.cls = own) (hlen : (lg_sl as).length ≤ nL)
    (body : ∀ (p : Program) (e : Env) (s : State) (m : MethodId) (args : Array Value) (below : List Frame) (meth : Method) (c : Code), Cx p s m args meth c cc nL own → Kx D cs ids ad (RgN ids ad sz) s → Tx ids ad sz s c l → meth.sig.returnType = none →
      Wx p l e (rmm h mc ms) s m args below meth c D cs ids ad (RgN ids ad sz) s.heap nL (vx_MQ below (qXV D cs ids ad sz Post) (xI D cs ids ad sz σ XP) args s mc ms (RgN ids ad sz)) 0 0 σ 0 (entryLo as nL) []) : CXV l D cs ids ad y cc nL h mc ms sz as σ Post XP := by
  refine vx_ofW (cc := cc) (maxL := nL) (ret := none) hy rfl ?_
  intro p e s m args below meth c s₁ B hml ht hv
  obtain ⟨rfl, ⟨hP, hK, hN, hX⟩, hsz, hZ⟩ := hv
  have hts := atoms_spec (ws := wsy y cc nL none) B.pre
  have hown : s.vm.findClass own = some m.cls := ho ▸ findClass_of_methodNamed B.named
  rw [lg_entry_eq]
  exact body p e s m as.toArray below meth c ⟨B.exec, B.bytes, hml, hown, fun w hw => hts w (List.mem_cons_of_mem _ hw), B.notSynchronized⟩ ⟨hK, hap, fun i hi => Or.inl ⟨i, hi, rfl⟩, hnd, hN, hX⟩ ⟨hZ, hsz, ht, hl⟩ B.returns s.heap [] _ hP va_S.rf (lo_entry as hlen)
theorem CXD.of {l : Launch} {D : va_G} {cs : Nat → ClassId} {ids : List Ix} {ad : Ix → Nat} {y : MethodName} {cc : ByteArray} {nL h mc ms sz : Nat} {as : List Value} {σ : Mem} {Post : UInt64 → Mem → Prop} {XP : String → Prop} (own : String) (hl : l.stackTraces = false) (hap : Apart ids ad) (hnd : ids.Nodup) (hy : plainName y.cls = true) (ho : y.cls = own) (hlen : (lg_sl as).length ≤ nL)
    (body : ∀ (p : Program) (e : Env) (s : State) (m : MethodId) (args : Array Value) (below : List Frame) (meth : Method) (c : Code), Cx p s m args meth c cc nL own → Kx D cs ids ad (RgN ids ad sz) s → Tx ids ad sz s c l → meth.sig.returnType = some .double →
      Wx p l e (rmm h mc ms) s m args below meth c D cs ids ad (RgN ids ad sz) s.heap nL (vx_MQ below (qXD D cs ids ad sz Post) (xI D cs ids ad sz σ XP) args s mc ms (RgN ids ad sz)) 0 0 σ 0 (entryLo as nL) []) : CXD l D cs ids ad y cc nL h mc ms sz as σ Post XP := by
  refine vx_ofW (cc := cc) (maxL := nL) (ret := some .double) hy rfl ?_
  intro p e s m args below meth c s₁ B hml ht hv
  obtain ⟨rfl, ⟨hP, hK, hN, hX⟩, hsz, hZ⟩ := hv
  have hts := atoms_spec (ws := wsy y cc nL (some .double)) B.pre
  have hown : s.vm.findClass own = some m.cls := ho ▸ findClass_of_methodNamed B.named
  rw [lg_entry_eq]
  exact body p e s m as.toArray below meth c ⟨B.exec, B.bytes, hml, hown, fun w hw => hts w (List.mem_cons_of_mem _ hw), B.notSynchronized⟩ ⟨hK, hap, fun i hi => Or.inl ⟨i, hi, rfl⟩, hnd, hN, hX⟩ ⟨hZ, hsz, ht, hl⟩ B.returns s.heap [] _ hP va_S.rf (lo_entry as hlen)
section ZX
variable {p : Program} {l : Launch} {e : Env} {R : Room} {s : State} {m : MethodId} {args : Array Value} {below : List Frame} {meth : Method} {c : Code} {D : va_G} {cs : Nat → ClassId} {ids : List Ix} {ad : Ix → Nat} {nL : Nat} {mc ms sz k n : Nat} {σ σ0 : Mem} {pc : Nat} {lo : List (Option Value)} {st : List Value} {cc : ByteArray} {own : String} {XP : String → Prop}
theorem zr_xiret (X : Cx p s m args meth c cc nL own) {Post : Int → Mem → Prop} {z : Int} (hk : k ≤ mc ∧ n ≤ ms) (hr : meth.sig.returnType = some .int) (d : decode cc pc = .ok (.ireturn, 1)) (h : Post z σ) : Wx p l e R s m args below meth c D cs ids ad (RgN ids ad sz) s.heap nL (vx_MQ below (qXI D cs ids ad sz Post) (xI D cs ids ad sz σ0 XP) args s mc ms (RgN ids ad sz)) k n σ pc lo [jI z] := fun H locs ls hP hS hl =>
  W.widen hk.1 hk.2 (vx_ret (W.iret X.1 X.2.1 hr (fun t ht _ => ⟨⟨iI z, (z, σ), rfl, ⟨rfl, h⟩, (by show Pic D cs ids ad σ t.heap; rw [ht]; exact hP)⟩, hS.F ht⟩) hS.2.2 d X.2.2.2.2.2))
theorem zr_xzret (X : Cx p s m args meth c cc nL own) {Post : Int → Mem → Prop} {z : Int} (hk : k ≤ mc ∧ n ≤ ms) (hr : meth.sig.returnType = some .boolean) (d : decode cc pc = .ok (.ireturn, 1)) (hz : z = 0 ∨ z = 1) (h : Post z σ) : Wx p l e R s m args below meth c D cs ids ad (RgN ids ad sz) s.heap nL (vx_MQ below (qXI D cs ids ad sz Post) (xI D cs ids ad sz σ0 XP) args s mc ms (RgN ids ad sz)) k n σ pc lo [jI z] := fun H locs ls hP hS hl =>
  W.widen hk.1 hk.2 (vx_ret (W.zret X.1 X.2.1 hr (by rcases hz with rfl | rfl <;> rfl) (fun t ht _ => ⟨⟨iI z, (z, σ), rfl, ⟨rfl, h⟩, (by show Pic D cs ids ad σ t.heap; rw [ht]; exact hP)⟩, hS.F ht⟩) hS.2.2 d X.2.2.2.2.2))
theorem zr_xdret (X : Cx p s m args meth c cc nL own) {Post : UInt64 → Mem → Prop} {z : UInt64} (hk : k ≤ mc ∧ n ≤ ms) (hr : meth.sig.returnType = some .double) (d : decode cc pc = .ok (.dreturn, 1)) (h : Post z σ) : Wx p l e R s m args below meth c D cs ids ad (RgN ids ad sz) s.heap nL (vx_MQ below (qXD D cs ids ad sz Post) (xI D cs ids ad sz σ0 XP) args s mc ms (RgN ids ad sz)) k n σ pc lo [.double z] := fun H locs ls hP hS hl =>
  W.widen hk.1 hk.2 (vx_ret (W.dret X.1 X.2.1 hr (fun t ht _ => ⟨⟨z, (z, σ), rfl, ⟨rfl, h⟩, (by show Pic D cs ids ad σ t.heap; rw [ht]; exact hP)⟩, hS.F ht⟩) hS.2.2 d X.2.2.2.2.2))
theorem zr_xvret (X : Cx p s m args meth c cc nL own) {Post : Mem → Prop} (hk : k ≤ mc ∧ n ≤ ms) (hr : meth.sig.returnType = none) (d : decode cc pc = .ok (.return_, 1)) (h : Post σ) : Wx p l e R s m args below meth c D cs ids ad (RgN ids ad sz) s.heap nL (vx_MQ below (qXV D cs ids ad sz Post) (xI D cs ids ad sz σ0 XP) args s mc ms (RgN ids ad sz)) k n σ pc lo [] := fun H locs ls hP hS hl =>
  W.widen hk.1 hk.2 (vx_ret (W.vret X.1 X.2.1 hr (fun t ht _ => ⟨⟨σ, rfl, h, (by show Pic D cs ids ad σ t.heap; rw [ht]; exact hP)⟩, hS.F ht⟩) hS.2.2 d X.2.2.2.2.2))
abbrev xnames : List String := ["java/lang/RuntimeException", "java/lang/Exception"]
/-- an exception of the class's own -/
theorem zr_throw {Qc : Array Value → State → Outcome → State → Prop} (X : Cx p s m args meth c cc nL "FlowNetwork") (K : Kx D cs ids ad (RgN ids ad sz) s) (T : Tx ids ad sz s c l) {E tx : String} {ik is ic : Nat} (hs : (is, tx) ∈ strs) (hk : Cond.classLink "FlowNetwork" ik E ∈ TB) (hini : Cond.initialized E ∈ TB) (hat : ∀ w ∈ vx_atS "FlowNetwork" ic E xnames, w ∈ TB ∨ w ∈ NW) (hgood : ∀ w ∈ Cond.classLink "FlowNetwork" ik E :: Cond.initialized E :: vx_atS "FlowNetwork" ic E xnames, vx_ot w = true) (hfit : Bundle.fit E = true)
    (d0 : decode cc pc = .ok (.new ik, 3)) (d3 : decode cc (pc + 3) = .ok (.dup, 1)) (d4 : decode cc (pc + 4) = .ok (.ldc is, 2)) (d6 : decode cc (pc + 6) = .ok (.invokespecial ic, 3)) (d9 : decode cc (pc + 9) = .ok (.athrow, 1))
    (hR : 5 < R.frames ∧ (st.map fun v => v.category).sum + 82 ≤ R.locals ∧ k + 1 ≤ R.cells ∧ n + 6 ≤ R.slots) (hc : k + 1 ≤ mc ∧ n + 6 ≤ ms) (hx : XP E) :
    Wx p l e R s m args below meth c D cs ids ad (RgN ids ad sz) s.heap nL (vx_MQ below Qc (xI D cs ids ad sz σ XP) args s mc ms (RgN ids ad sz)) k n σ pc lo st := fun H locs ls hP hS hl => by
  obtain ⟨sa, hsa⟩ := K.2.2.2.2.2.1 _ hs
  refine vx_throwS (names := xnames) (A := RgN ids ad sz) (text := tx) X.1 X.2.1 T.2.2.2 X.2.2.2.1 hfit (by decide +kernel) (X.2.2.2.2.1 _ hk) (X.2.2.2.2.1 _ hini) hsa (fun w hw => (hat w hw).elim (X.2.2.2.2.1 w) (fun h => ?_)) hgood T.1.1 T.1.2 hS (hl.1.trans X.2.2.1.symm) d0 d3 d4 d6 d9 (fun x hx => (T.2.2.1 x hx).elim) hR.1 hR.2.1 hR.2.2.1 hR.2.2.2 X.2.2.2.2.2 (fun t hA h1 h2 => ⟨E, hx, ⟨rfl, fun i hi => ?_⟩, ?_⟩) hS.2.2 hc.1 hc.2
  · have h2 : isNest w = true := (List.mem_filter.mp h).2
    have h1 := K.2.2.2.2.1 w h
    cases w <;> first | exact va_Nw.use rfl h1 | cases h2
  · exact (hP i hi).kept (h2 _ (hP i hi).lt)
  · exact ⟨Nat.le_trans hS.1 h1, fun q hq hA' => (h2 q (Nat.lt_of_lt_of_le hq hS.1)).trans (hS.2.1 q hq hA')⟩
theorem Zx_at (T : Tx ids ad sz s c l) {U : State} {H : Heap} {locs : List Loc} (hS : va_S (RgN ids ad sz) s.heap H locs) (hU : U.heap = H) (hW : s.WarmedH U.vm) : Zx (RgN ids ad H.size) U := by
  have hn : ∀ q, RgN ids ad H.size q → RgN ids ad sz q := fun q h => h.elim Or.inl (fun h => Or.inr (by have := hS.1; have := T.2.1; omega))
  unfold Zx
  rw [hU]
  exact ⟨((T.1.1.moved hW.alike).kept (fun a h1 h2 => hS.2.1 a h1 h2)).narrow hn, ((T.1.2.moved hW.alike).kept (fun a h1 h2 => hS.2.1 a h1 h2)).narrow hn⟩
theorem Zx_same {A : Nat → Prop} {u U : State} (hh : u.heap = U.heap) (hv : u.vm = U.vm) (h : Zx A u) : Zx A U := by
  unfold Zx
  rw [← hh]
  exact ⟨h.1.moved (by rw [hv]; exact Vm.Alike.refl U.vm), h.2.moved (by rw [hv]; exact Vm.Alike.refl U.vm)⟩
theorem pre_SX (K : Kx D cs ids ad (RgN ids ad sz) s) (T : Tx ids ad sz s c l) {H : Heap} {locs : List Loc} {As : List Value} (hP : Pic D cs ids ad σ H) (hS : va_S (RgN ids ad sz) s.heap H locs) : PreS s H (va_Pc As (fun U => WoX D cs ids ad H.size σ U)) As :=
  ⟨fun a U g mk q => ⟨q.1, Wo.same (u := U) (U := U.calling g mk a) rfl rfl q.2.1, q.2.2.1, Zx_same (u := U) (U := U.calling g mk a) rfl rfl q.2.2.2⟩, fun U hU hW => ⟨rfl, ⟨by rw [hU]; exact hP, va_K.moved hW.alike K.1, K.2.2.2.2.1.warm hW, K.2.2.2.2.2.warm hW⟩, by rw [hU], Zx_at T hS hU hW⟩⟩
theorem pre_VX (K : Kx D cs ids ad (RgN ids ad sz) s) (T : Tx ids ad sz s c l) {H : Heap} {locs : List Loc} {o : Ix} {ci : Nat} {q : vw_C} {fs : List Value} {As : List Value} (hP : Pic D cs ids ad σ H) (hS : va_S (RgN ids ad sz) s.heap H locs) (ho : o ∈ ids) (he : enc cs ad σ o = .inr (ci, fs)) (hc : vwCl[ci]? = some q) : PreV s H q.1 (ad o) (va_Pc (.ref (ad o) :: As) (fun U => WoX D cs ids ad H.size σ U)) As :=
  ⟨(pre_SX (As := .ref (ad o) :: As) K T hP hS).1, va_recv K.1 (pic_one hP ho he) hc (q0 := 0) rfl, (pre_SX (As := .ref (ad o) :: As) K T hP hS).2⟩
theorem RgN_up {H : Heap} {locs : List Loc} (T : Tx ids ad sz s c l) (hS : va_S (RgN ids ad sz) s.heap H locs) : ∀ q, RgN ids ad H.size q → RgN ids ad sz q := fun q h => h.elim Or.inl (fun h => Or.inr (by have := hS.1; have := T.2.1; omega))
theorem x_out (X : Cx p s m args meth c cc nL own) (T : Tx ids ad sz s c l) {Qc : Array Value → State → Outcome → State → Prop} {XP' : String → Prop} (hx : ∀ E, XP' E → XP E) {H1 : Heap} {locs1 : List Loc} {k1 n1 : Nat} {ls : Array Slot} {st1 : List Value} {E : String} {ce : Cell} {q9 : Addr} {u : String} {t : State} (hc : k1 ≤ mc ∧ n1 ≤ ms) (ht : t.heap = H1) (hu : XP' u) (hB : E = u ∧ Pic D cs ids ad σ t.heap) (hS1 : va_S (RgN ids ad sz) s.heap H1 locs1) (h1 : H1[q9]? = some ce) (h2 : ce.vm = .none) (h3 : s.vm.findClass E = some ce.cls) : vx_W p l e R s m args below meth c H1 locs1 k1 n1 (vx_MQ below Qc (xI D cs ids ad sz σ XP) args s mc ms (RgN ids ad sz)) (F0 m pc ls st1) q9 :=
  vx_out (fun x hx => (T.2.2.1 x hx).elim) X.2.2.2.2.2 h1 h2 h3 (fun t' ht' _ => ⟨u, hx u hu, ⟨hB.1, by rw [ht', ← ht]; exact hB.2⟩, hS1.F ht'⟩) hS1.2.2 hc.1 hc.2
theorem zr_xcallVV {Qc : Array Value → State → Outcome → State → Prop} (X : Cx p s m args meth c cc nL own) (K : Kx D cs ids ad (RgN ids ad sz) s) (T : Tx ids ad sz s c l) {y : MethodName} {bytes : ByteArray} {maxL index na h mc' ms' ci : Nat} {o : Ix} {q : vw_C} {fs : List Value} {As st1 : List Value} {Post : Mem → Prop} {XP' : String → Prop} (hC : ∀ sz', CXV l D cs ids ad y bytes maxL h mc' ms' sz' (.ref (ad o) :: As) σ Post XP') (L : lkV own index y bytes maxL none) (hd : dcl y na) (ho : o ∈ ids) (he : enc cs ad σ o = .inr (ci, fs)) (hc : vwCl[ci]? = some q) (hy : y.cls = q.1) (hst : st1 = As.reverse ++ .ref (ad o) :: st) (hn : As.length = na) (hW : (st.map fun v => v.category).sum ≤ 8) (hR : (h + 1 ≤ R.frames ∧ 8 + (maxL + 11) + (100 + 28 * h) ≤ R.locals) ∧ k + mc' ≤ R.cells ∧ n + ms' ≤ R.slots) (d : decode cc pc = .ok (.invokevirtual index, 3)) (hm : k + mc' ≤ mc ∧ n + ms' ≤ ms) (hx : ∀ E, XP' E → XP E)
    (kk : ∀ (τ : Mem), Post τ → Wx p l e R s m args below meth c D cs ids ad (RgN ids ad sz) s.heap nL (vx_MQ below Qc (xI D cs ids ad sz σ XP) args s mc ms (RgN ids ad sz)) (k + mc') (n + ms') τ (pc + 3) lo st) : Wx p l e R s m args below meth c D cs ids ad (RgN ids ad sz) s.heap nL (vx_MQ below Qc (xI D cs ids ad sz σ XP) args s mc ms (RgN ids ad sz)) k n σ pc lo st1 := fun H locs ls hP hS hl => by
  subst hst
  have hup := RgN_up T hS
  refine vx_callv (vx_runV (As := As) (rest := st) (C := y.cls) ⟨X.1, X.2.1, X.2.2.1, X.2.2.2.1, X.2.2.2.2.1⟩ (hC H.size) (cb_V X L hd hR.1) (by rw [hy]; exact pre_VX K T hP hS ho he hc) rfl hn hl.1 rfl (by show 2 * 0 + _ ≤ 8; omega) d hR.2) hS (fun q _ h => hup q h) hup (fun q _ h => hup q h) (fun E ce q9 u t H1 locs1 ht _ hu hB _ _ hS1 g1 g2 g3 => x_out X T hx hm ht hu hB hS1 g1 g2 g3) (fun u t H1 locs1 ht _ hw hB _ _ hS1 => ?_)
  exact kk u hw H1 locs1 ls (by rw [← ht]; exact hB) hS1 hl
theorem zr_xcallSV {Qc : Array Value → State → Outcome → State → Prop} (X : Cx p s m args meth c cc nL own) (K : Kx D cs ids ad (RgN ids ad sz) s) (T : Tx ids ad sz s c l) {y : MethodName} {bytes : ByteArray} {maxL index na h mc' ms' : Nat} {As st1 : List Value} {Post : Mem → Prop} {XP' : String → Prop} (hC : ∀ sz', CXV l D cs ids ad y bytes maxL h mc' ms' sz' As σ Post XP') (L : lkS own index y bytes maxL none) (hd : dcl y na) (hst : st1 = As.reverse ++ st) (hn : As.length = na) (hW : (st.map fun v => v.category).sum ≤ 8) (hR : (h + 1 ≤ R.frames ∧ 8 + (maxL + 11) + (100 + 28 * h) ≤ R.locals) ∧ k + mc' ≤ R.cells ∧ n + ms' ≤ R.slots) (d : decode cc pc = .ok (.invokestatic index, 3)) (hm : k + mc' ≤ mc ∧ n + ms' ≤ ms) (hx : ∀ E, XP' E → XP E)
    (kk : ∀ (τ : Mem), Post τ → Wx p l e R s m args below meth c D cs ids ad (RgN ids ad sz) s.heap nL (vx_MQ below Qc (xI D cs ids ad sz σ XP) args s mc ms (RgN ids ad sz)) (k + mc') (n + ms') τ (pc + 3) lo st) : Wx p l e R s m args below meth c D cs ids ad (RgN ids ad sz) s.heap nL (vx_MQ below Qc (xI D cs ids ad sz σ XP) args s mc ms (RgN ids ad sz)) k n σ pc lo st1 := fun H locs ls hP hS hl => by
  subst hst
  have hup := RgN_up T hS
  refine vx_callv (vx_runS (As := As) (rest := st) ⟨X.1, X.2.1, X.2.2.1, X.2.2.2.1, X.2.2.2.2.1⟩ (hC H.size) (cb_S X L hd hR.1) (pre_SX K T hP hS) rfl hn hl.1 rfl (by show 2 * 0 + _ ≤ 8; omega) d hR.2) hS (fun q _ h => hup q h) hup (fun q _ h => hup q h) (fun E ce q9 u t H1 locs1 ht _ hu hB _ _ hS1 g1 g2 g3 => x_out X T hx hm ht hu hB hS1 g1 g2 g3) (fun u t H1 locs1 ht _ hw hB _ _ hS1 => ?_)
  exact kk u hw H1 locs1 ls (by rw [← ht]; exact hB) hS1 hl
end ZX
theorem xat_ISE : ∀ w ∈ vx_atS "FlowNetwork" 50 ISE xnames, w ∈ TB ∨ w ∈ NW := by decide +kernel
theorem xat_IOB : ∀ w ∈ vx_atS "FlowNetwork" 166 IOB xnames, w ∈ TB ∨ w ∈ NW := by decide +kernel
theorem xat_IAE : ∀ w ∈ vx_atS "FlowNetwork" 149 IAE xnames, w ∈ TB ∨ w ∈ NW := by decide +kernel
