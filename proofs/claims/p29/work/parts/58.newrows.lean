/-! MAKING THINGS: a walk over a list of cells; every new cell stands at the heap's end -/
def Wn (p : Program) (l : Launch) (e : Env) (R : Room) (s : State) (m : MethodId) (args : Array Value) (below : List Frame) (meth : Method) (c : Code) (D : va_G) (A : Nat → Prop) (H0 : Heap) (nL : Nat) (Q : State → Prop) (mc ms sz : Nat) (ws : va_W) (pc : Nat) (lo : List (Option Value)) (st : List Value) : Prop :=
  ∀ (H : Heap) (locs : List Loc) (ls : Array Slot), (∀ x ∈ ws, va_at D vwCl x H) → H.size = sz → va_S A H0 H locs → lo_has ls nL lo → W p l e R s m args below meth c H locs mc ms Q (F0 m pc ls st)
def Kn (D : va_G) (cs : Nat → ClassId) (A : Nat → Prop) (s : State) : Prop := va_K D vwCl (tysL cs) s ∧ (∀ q, s.heap.size ≤ q → A q) ∧ Nx s ∧ Sx s ∧ va_AOA .int s
theorem AOA_moved {ty : FieldType} {u U : State} (hvm : u.vm.Alike U.vm) (h : va_AOA ty u) : va_AOA ty U := by
  have := Cond.arrayOver_setVmC (args := #[]) hvm (.array ty)
  unfold va_AOA at h ⊢
  rw [← this] at h
  exact h
/-- the class of an array of whole numbers .. -/
theorem cls_of {cA cB : ClassId} {s : State} {n : String} (h1 : s.vm.findClass n = some cA) (h2 : s.vm.findClass n = some cB) : cA = cB := Option.some.inj (h1.symm.trans h2)
section ZN
variable {p : Program} {l : Launch} {e : Env} {R : Room} {s : State} {m : MethodId} {args : Array Value} {below : List Frame} {meth : Method} {c : Code} {D : va_G} {cs : Nat → ClassId} {A : Nat → Prop} {nL : Nat} {Q : State → Prop} {mc ms sz : Nat} {ws : va_W} {pc : Nat} {lo : List (Option Value)} {st : List Value} {cc : ByteArray} {own : String}
theorem wn_sub {ws' : va_W} (h : ∀ x ∈ ws', x ∈ ws) (k : Wn p l e R s m args below meth c D A s.heap nL Q mc ms sz ws' pc lo st) : Wn p l e R s m args below meth c D A s.heap nL Q mc ms sz ws pc lo st := fun H locs ls hw hz hS hl => k H locs ls (fun x hx => hw x (h x hx)) hz hS hl
theorem wn_aload (X : Cx p s m args meth c cc nL own) {i : Nat} {x : Nat} (d : decode cc pc = .ok (.aload i, 2)) (h : lo[i]? = some (some (.ref x))) (k : Wn p l e R s m args below meth c D A s.heap nL Q mc ms sz ws (pc + 2) lo (.ref x :: st)) : Wn p l e R s m args below meth c D A s.heap nL Q mc ms sz ws pc lo st := fun H locs ls hw hz hS hl => lv_aload X.1 X.2.1 d (hl.2.2 _ _ h) (k H locs ls hw hz hS hl)
theorem wn_aloadn (X : Cx p s m args meth c cc nL own) {i : Fin 4} {x : Nat} (d : decode cc pc = .ok (.aload_n i, 1)) (h : lo[(i : Nat)]? = some (some (.ref x))) (k : Wn p l e R s m args below meth c D A s.heap nL Q mc ms sz ws (pc + 1) lo (.ref x :: st)) : Wn p l e R s m args below meth c D A s.heap nL Q mc ms sz ws pc lo st := fun H locs ls hw hz hS hl => lv_aload_n X.1 X.2.1 d rfl (hl.2.2 _ _ h) (k H locs ls hw hz hS hl)
theorem wn_astore (X : Cx p s m args meth c cc nL own) {i : Nat} {x : Nat} (d : decode cc pc = .ok (.astore i, 2)) (hn : i < nL) (hw : wideAt lo i = false) (k : Wn p l e R s m args below meth c D A s.heap nL Q mc ms sz ws (pc + 2) (lo.set i (some (.ref x))) st) : Wn p l e R s m args below meth c D A s.heap nL Q mc ms sz ws pc lo (.ref x :: st) := fun H locs ls hws hz hS hl => lv_astore X.1 X.2.1 d (lo_lv hl) hn rfl (fun ls' h' => k H locs ls' hws hz hS (lo_put1 hw h'))
theorem wn_astoren (X : Cx p s m args meth c cc nL own) {i : Fin 4} {x : Nat} (d : decode cc pc = .ok (.astore_n i, 1)) (hn : (i : Nat) < nL) (hw : wideAt lo i = false) (k : Wn p l e R s m args below meth c D A s.heap nL Q mc ms sz ws (pc + 1) (lo.set i (some (.ref x))) st) : Wn p l e R s m args below meth c D A s.heap nL Q mc ms sz ws pc lo (.ref x :: st) := fun H locs ls hws hz hS hl => lv_astore_n X.1 X.2.1 d rfl (lo_lv hl) hn rfl (fun ls' h' => k H locs ls' hws hz hS (lo_put1 hw h'))
theorem wn_iconst (X : Cx p s m args meth c cc nL own) {n : Int} (d : decode cc pc = .ok (.iconst n, 1)) (k : Wn p l e R s m args below meth c D A s.heap nL Q mc ms sz ws (pc + 1) lo (jI n :: st)) : Wn p l e R s m args below meth c D A s.heap nL Q mc ms sz ws pc lo st := fun H locs ls hw hz hS hl => lv_iconst X.1 X.2.1 d rfl (k H locs ls hw hz hS hl)
theorem wn_bipush (X : Cx p s m args meth c cc nL own) {n : Int} (d : decode cc pc = .ok (.bipush n, 2)) (hv : (Int8.ofInt n).toInt32 = iI n) (k : Wn p l e R s m args below meth c D A s.heap nL Q mc ms sz ws (pc + 2) lo (jI n :: st)) : Wn p l e R s m args below meth c D A s.heap nL Q mc ms sz ws pc lo st := fun H locs ls hw hz hS hl => lv_bipush X.1 X.2.1 d hv (k H locs ls hw hz hS hl)
theorem wn_sipush (X : Cx p s m args meth c cc nL own) {n : Int} (d : decode cc pc = .ok (.sipush n, 3)) (hv : (Int16.ofInt n).toInt32 = iI n) (k : Wn p l e R s m args below meth c D A s.heap nL Q mc ms sz ws (pc + 3) lo (jI n :: st)) : Wn p l e R s m args below meth c D A s.heap nL Q mc ms sz ws pc lo st := fun H locs ls hw hz hS hl => lv_sipush X.1 X.2.1 d hv (k H locs ls hw hz hS hl)
theorem wn_dup (X : Cx p s m args meth c cc nL own) {v : Value} (d : decode cc pc = .ok (.dup, 1)) (hv : v.category = 1) (k : Wn p l e R s m args below meth c D A s.heap nL Q mc ms sz ws (pc + 1) lo (v :: v :: st)) : Wn p l e R s m args below meth c D A s.heap nL Q mc ms sz ws pc lo (v :: st) := fun H locs ls hw hz hS hl => lv_dup X.1 X.2.1 d hv (k H locs ls hw hz hS hl)
theorem wn_obj (X : Cx p s m args meth c cc nL own) {idx a : Nat} (hlink : Cond.methodLink own idx Lib.objectInit ∈ TB) (d : decode cc pc = .ok (.invokespecial idx, 3)) (hR : 1 ≤ R.frames ∧ (st.map fun v => v.category).sum + 12 ≤ R.locals) (k : Wn p l e R s m args below meth c D A s.heap nL Q mc ms sz ws (pc + 3) lo st) : Wn p l e R s m args below meth c D A s.heap nL Q mc ms sz ws pc lo (.ref a :: st) := fun H locs ls hw hz hS hl =>
  W.objInit X.1 X.2.1 X.2.2.2.1 (X.2.2.2.2.1 _ hlink) (X.2.2.2.2.1 _ tw_23) (X.2.2.2.2.1 _ tw_24) rfl (hl.1.trans X.2.2.1.symm) rfl d hR.1 (by show 2 * 0 + _ + 12 ≤ _; omega) (k H locs ls hw hz hS hl)
theorem wn_news {H H1 : Heap} {locs : List Loc} {H0 : Heap} {x0 : Nat × va_E} (hw : ∀ x ∈ ws, va_at D vwCl x H) (hx : va_at D vwCl x0 H1) (ho : ∀ q : Nat, q < H.size → H1[q]? = H[q]?) : ∀ x ∈ x0 :: ws, va_at D vwCl x H1 := fun x h => by
  rcases List.mem_cons.mp h with rfl | h
  · exact hx
  · exact (hw x h).kept (ho _ (hw x h).lt)
theorem S_grow {H0 H H1 : Heap} {locs : List Loc} (hS : va_S A H0 H locs) (hz : H.size ≤ H1.size) (ho : ∀ q : Nat, q < H.size → H1[q]? = H[q]?) : va_S A H0 H1 locs := ⟨Nat.le_trans hS.1 hz, fun q h1 h2 => (ho q (Nat.lt_of_lt_of_le h1 hS.1)).trans (hS.2.1 q h1 h2), hS.2.2⟩
/-- a new array of whole numbers -/
theorem wn_newI (X : Cx p s m args meth c cc nL own) (K : Kn D cs A s) {n : Int} {N : Nat} (hn : n = (N : Int)) (hN : N < 100000) (hR : mc + 1 ≤ R.cells ∧ ms + N ≤ R.slots) (d : decode cc pc = .ok (.newarray .int, 2)) (k : Wn p l e R s m args below meth c D A s.heap nL Q (mc + 1) (ms + N) (sz + 1) ((sz, .inl (cs 0, N, .inl (fun _ => iI 0))) :: ws) (pc + 2) lo (.ref sz :: st)) : Wn p l e R s m args below meth c D A s.heap nL Q mc ms sz ws pc lo (jI n :: st) := fun H locs ls hw hz hS hl => by
  subst hn
  refine va_newaK (atype := .int) X.1 X.2.1 (X.2.2.2.2.1 _ tw_67) rfl d rfl (by rw [show ((0 : Int32)) = iI 0 from rfl, iI_lt ⟨by omega, by omega⟩ ⟨by omega, by omega⟩]; omega) (N := N) (by rw [iI_clamp (by omega) (by omega)]; omega) (by show N * 4 ≤ _; omega) hR.1 hR.2 hz (fun H1 cA e1 z1 o1 hAr hNm => ?_)
  have hc : cA = cs 0 := cls_of hNm (K.1.2 0 _ rfl).2
  subst hc
  subst hz
  exact k H1 locs ls (wn_news (H0 := s.heap) (locs := locs) hw e1 o1) z1 (S_grow hS (by omega) o1) hl
/-- a new array of N arrays of M whole numbers: it stands first, its rows behind it -/
def mnaW (cs : Nat → ClassId) (sz N M : Nat) : va_W := (sz, .inl (cs 1, N, .inr (.inr (.inr (.inr (fun i => if i < N then some (sz + 1 + i) else none)))))) :: (List.range N).map (fun i => (sz + 1 + i, .inl (cs 0, M, .inl (fun _ => iI 0))))
theorem wn_newM (X : Cx p s m args meth c cc nL own) (K : Kn D cs A s) {n k : Int} {N M index : Nat} (hn : n = (N : Int)) (hk : k = (M : Int)) (hN : N < 1000) (hM : M < 1000) (hlink : Cond.classLink own index "[[I" ∈ TB) (hR : mc + (1 + N) ≤ R.cells ∧ ms + (N + N * M) ≤ R.slots) (d : decode cc pc = .ok (.multianewarray index 2, 4)) (kk : Wn p l e R s m args below meth c D A s.heap nL Q (mc + (1 + N)) (ms + (N + N * M)) (sz + (1 + N)) (mnaW cs sz N M ++ ws) (pc + 4) lo (.ref sz :: st)) : Wn p l e R s m args below meth c D A s.heap nL Q mc ms sz ws pc lo (jI k :: jI n :: st) := fun H locs ls hw hz hS hl => by
  subst hn; subst hk; subst hz
  intro T hT Xs
  have hcn : (iI (N : Int)).toNatClampNeg = N := by rw [iI_clamp (by omega) (by omega)]; omega
  have hcm : (iI (M : Int)).toNatClampNeg = M := by rw [iI_clamp (by omega) (by omega)]; omega
  obtain ⟨vm₁, cA, comp, -, fA, fC, -, -, X', step⟩ := Xs.multianewarray2F (ty := .int) X.1 X.2.2.2.1 (X.2.2.2.2.1 _ hlink) (va_AOA.use K.2.2.2.2) (X.2.2.2.2.1 _ tw_67) (g := F0 m pc ls (jI (M : Int) :: jI (N : Int) :: st)) rfl (by rw [X.2.1]; exact d) rfl (by rw [show ((0 : Int32)) = iI 0 from rfl, iI_lt ⟨by omega, by omega⟩ ⟨by omega, by omega⟩]; omega) (by rw [show ((0 : Int32)) = iI 0 from rfl, iI_lt ⟨by omega, by omega⟩ ⟨by omega, by omega⟩]; omega) (by rw [hcn]; omega) (by rw [hcm]; show M * 4 ≤ _; omega) (by rw [hcm]; omega) rfl rfl (by rw [hcn]; exact hR.1) (by rw [hcn, hcm]; exact hR.2)
  have h1 : cA = cs 1 := cls_of fA (K.1.2 1 _ rfl).2
  have h0 : comp = cs 0 := cls_of fC (K.1.2 0 _ rfl).2
  subst h1; subst h0
  rw [hcn, hcm] at X' step
  generalize hF : Jvm.Free.Multi.fill (T.setVm vm₁) (cs 1) (cs 0) N M (defaultValue .int) N = F at X' step
  have hTh : (T.setVm vm₁).heap = H := hT
  obtain ⟨f1, f2, -, -⟩ := Jvm.Free.Multi.fill_facts (T.setVm vm₁) (cs 1) (cs 0) N M (defaultValue .int) N
  rw [hF, hTh] at f1 f2
  have hold : ∀ x : Nat, x < H.size → F.heap[x]? = H[x]? := fun x hx => by
    have := Jvm.Free.Multi.fill_old (T.setVm vm₁) (cs 1) (cs 0) N M (defaultValue .int) (a := x) (by rw [hTh]; exact hx) N
    rw [hF, hTh] at this
    exact this
  have hrow : ∀ j : Nat, j < N → F.heap[H.size + 1 + j]? = some (vp_cell (cs 0) (M, .inl (fun _ => iI 0))) := fun j hj => by
    have := Jvm.Free.Multi.fill_inner (T.setVm vm₁) (cs 1) (cs 0) N M (defaultValue .int) N j hj
    rw [hF, hTh] at this
    rw [this, vp_cell_i]
    exact congrArg some (arrV_new (cs 0) M (.int 0))
  have hout : Jvm.Free.Multi.outerC (cs 1) N H.size N = vp_cell (cs 1) (N, .inr (.inr (.inr (.inr (fun i => if i < N then some (H.size + 1 + i) else none))))) := by
    rw [vp_cell_q]
    exact vr_outer (cs 1) N H.size N
  rw [hout] at f2
  rw [hT] at step
  obtain ⟨t2, a1, b1⟩ := kk F.heap locs ls (fun x hx => by
    rcases List.mem_append.mp hx with hx | hx
    · rcases List.mem_cons.mp hx with rfl | hx
      · exact f2
      · obtain ⟨i, hi, rfl⟩ := List.mem_map.mp hx
        exact hrow i (List.mem_range.mp hi)
    · exact (hw x hx).kept (hold _ (hw x hx).lt)) (by rw [f1]; omega) (S_grow hS (by omega) hold) hl F rfl (by rw [← Nat.add_assoc, ← Nat.add_assoc]; exact X')
  exact ⟨t2, step t2 a1, b1⟩
/-- a new object -/
theorem wn_newO (X : Cx p s m args meth c cc nL own) (K : Kn D cs A s) {C : String} {T : u_T} {N ci index : Nat} {fs : List Value} (hc : vwCl[ci]? = some (C, T, N)) (hin : ∀ w ∈ u_ws C T N, w ∈ TB) (ty : Nat → FieldType) (hty : ∀ k, k < N → parseFieldDescriptor (T k).2.2.1 = some (ty k)) (hlink : Cond.classLink own index C ∈ TB) (hins : Cond.instantiable C N ∈ TB) (hini : Cond.initialized C ∈ TB) (hfs : ∀ j, j < N → defaultValue (ty j) = vp_V fs j) (hR : mc + 1 ≤ R.cells ∧ ms + N ≤ R.slots) (d : decode cc pc = .ok (.new index, 3)) (k : Wn p l e R s m args below meth c D A s.heap nL Q (mc + 1) (ms + N) (sz + 1) ((sz, .inr (ci, fs)) :: ws) (pc + 3) lo (.ref sz :: st)) : Wn p l e R s m args below meth c D A s.heap nL Q mc ms sz ws pc lo st := fun H locs ls hw hz hS hl => by
  subst hz
  have hKn := K.1.1 ci _ hc
  refine W.newcK X.1 X.2.1 X.2.2.2.1 (X.2.2.2.2.1 _ hlink) (X.2.2.2.2.1 _ hins) (X.2.2.2.2.1 _ hini) rfl d hR.1 hR.2 hKn.2.1 rfl fun H1 kC hkC e1 z1 o1 => ?_
  exact k H1 locs ls (wn_news (H0 := s.heap) (locs := locs) hw ⟨_, hc, (u_born ty X.2.2.2.2.1 hin hKn hkC e1 hty).to hfs⟩ o1) z1 (S_grow hS (by omega) o1) hl
theorem wn_puts {H H1 : Heap} {h ci : Nat} {fs fs' : List Value} (hw : ∀ x ∈ (h, .inr (ci, fs)) :: ws, va_at D vwCl x H) (hne : ∀ x ∈ ws, x.1 ≠ h) (hx : va_at D vwCl (h, .inr (ci, fs')) H1) (ho : ∀ q : Nat, q ≠ h → H1[q]? = H[q]?) : ∀ x ∈ (h, .inr (ci, fs')) :: ws, va_at D vwCl x H1 := fun x hm => by
  rcases List.mem_cons.mp hm with rfl | hm
  · exact hx
  · exact (hw x (List.mem_cons_of_mem _ hm)).kept (ho _ (hne x hm))
/-- a field of the first cell -/
theorem wn_put (X : Cx p s m args meth c cc nL own) (K : Kn D cs A s) {h ci : Nat} {ref C nm dsc : String} {T : u_T} {ty0 : Nat → FieldType} {ty : FieldType} {N k index : Nat} {fs : List Value} {v : Value} (hh : A h) (hne : ∀ x ∈ ws, x.1 ≠ h) (hc : vwCl[ci]? = some (C, T, N)) (hin : ∀ w ∈ u_ws C T N, w ∈ TB) (hty : ∀ k, k < N → parseFieldDescriptor (T k).2.2.1 = some (ty0 k)) (hnm : ∀ a, a < N → ∀ b, b < N → a ≠ b → (T a).2.1 ≠ (T b).2.1) (hk : k < N) (hT : T k = (ref, nm, dsc, false)) (hw : Cond.fieldLink own index ref nm dsc ∈ TB) (hd : ty0 k = ty) (hn : narrow ty v = v) (hfit : fits ty v = true) (hl0 : k < fs.length) (d : decode cc pc = .ok (.putfield index, 3))
    (kk : Wn p l e R s m args below meth c D A s.heap nL Q mc ms sz ((h, .inr (ci, fs.set k v)) :: ws) (pc + 3) lo st) : Wn p l e R s m args below meth c D A s.heap nL Q mc ms sz ((h, .inr (ci, fs)) :: ws) pc lo (v :: .ref h :: st) := fun H locs ls hws hz hS hl => by
  have hap := va_apart (own := own) X.2.2.2.2.1 hin ty0 hty hnm K.1 hc
  obtain ⟨r, h1, cell, q1, q2, q3, q4⟩ := hws _ List.mem_cons_self
  have hr : r = (C, T, N) := Option.some.inj (h1.symm.trans hc)
  subst hr
  obtain ⟨hSl, hfc, kC, hkC, hkind⟩ := K.1.1 ci _ hc
  obtain ⟨cf, kf, fi, f, hi, hsl⟩ := hSl k hk
  have hi : s.fieldFound? (T k).1 (T k).2.1 (T k).2.2.1 = some (cf, kf, fi, f) := hi
  have hi2 : s.fieldFound? ref nm dsc = some (cf, kf, fi, f) := by rw [hT] at hi; exact hi
  have hlay := X.2.2.2.2.1 _ (hin _ (u_in_lay hk))
  unfold u_lay at hlay
  rw [if_neg (by rw [hT]; intro h; cases h)] at hlay
  have hst := (u_facts hfc hkC (u_lays X.2.2.2.2.1 hin hk) hi).1
  have h6 := u_store hfc hkC hkind hlay hi ((hty k hk).trans (congrArg some hd)) hn hfit
  refine W.putK X.1 X.2.1 (own := own) (ref := ref) (name := nm) (desc := dsc) (f := f) ⟨X.2.2.2.1, X.2.2.2.2.1 _ hw, ⟨_, _, _, hi2⟩, hst⟩ (by rw [q2]; exact h6) q1 q3 (by rw [hsl]; exact k2_hasslot (q4 k hk)) rfl rfl d fun H' e1 e2 e3 => ?_
  rw [hsl] at e1 ⊢
  exact kk H' _ ls (wn_puts hws hne ⟨_, hc, t_OB.to (V := updV (vp_V fs) k v) ⟨_, e1, q2, q3, t_set q4 hap hk v⟩ (fun j _ => vp_updV_set hl0 v j)⟩ e3) (e2.trans hz) (hS.put e2 e3 hh) hl
theorem wn_putF (X : Cx p s m args meth c cc nL own) (K : Kn D cs A s) {h ci : Nat} {ref C nm dsc : String} {T : u_T} {ty0 : Nat → FieldType} {ty : FieldType} {N k index : Nat} {fs : List Value} {v : Value} (hin2 : meth.name = "<init>") (hh : A h) (hne : ∀ x ∈ ws, x.1 ≠ h) (hc : vwCl[ci]? = some (C, T, N)) (hin : ∀ w ∈ u_ws C T N, w ∈ TB) (hty : ∀ k, k < N → parseFieldDescriptor (T k).2.2.1 = some (ty0 k)) (hnm : ∀ a, a < N → ∀ b, b < N → a ≠ b → (T a).2.1 ≠ (T b).2.1) (hk : k < N) (hT : T k = (ref, nm, dsc, true)) (hdecl : ref = own) (hw : Cond.fieldLink own index ref nm dsc ∈ TB) (hd : ty0 k = ty) (hn : narrow ty v = v) (hfit : fits ty v = true) (hl0 : k < fs.length) (d : decode cc pc = .ok (.putfield index, 3))
    (kk : Wn p l e R s m args below meth c D A s.heap nL Q mc ms sz ((h, .inr (ci, fs.set k v)) :: ws) (pc + 3) lo st) : Wn p l e R s m args below meth c D A s.heap nL Q mc ms sz ((h, .inr (ci, fs)) :: ws) pc lo (v :: .ref h :: st) := fun H locs ls hws hz hS hl => by
  have hap := va_apart (own := own) X.2.2.2.2.1 hin ty0 hty hnm K.1 hc
  obtain ⟨r, h1, cell, q1, q2, q3, q4⟩ := hws _ List.mem_cons_self
  have hr : r = (C, T, N) := Option.some.inj (h1.symm.trans hc)
  subst hr
  obtain ⟨hSl, hfc, kC, hkC, hkind⟩ := K.1.1 ci _ hc
  obtain ⟨cf, kf, fi, f, hi, hsl⟩ := hSl k hk
  have hi : s.fieldFound? (T k).1 (T k).2.1 (T k).2.2.1 = some (cf, kf, fi, f) := hi
  have hi2 : s.fieldFound? ref nm dsc = some (cf, kf, fi, f) := by rw [hT] at hi; exact hi
  have hlay := X.2.2.2.2.1 _ (hin _ (u_in_lay hk))
  unfold u_lay at hlay
  rw [if_pos (by rw [hT])] at hlay
  have hst := (u_facts hfc hkC (u_lays X.2.2.2.2.1 hin hk) hi).1
  have hcf : m.cls = cf := by
    obtain ⟨_, _, c', _, _, _, -, -, hf', -, -, -, hown2, -⟩ := Cond.laysFinal_spec hlay
    have e1 : c' = cf := by have := hi.symm.trans hf'; simp at this; exact this.1.symm
    rw [hT] at hown2
    rw [← hdecl] at X
    rw [← e1]; exact Option.some.inj (X.2.2.2.1.symm.trans hown2)
  have h6 := u_fits hfc hkC hkind (Or.inr hlay) hi ((hty k hk).trans (congrArg some hd)) hn hfit
  refine W.putFinK X.1 X.2.1 X.2.2.2.1 (X.2.2.2.2.1 _ hw) hi2 hst hcf hin2 (by rw [q2]; exact h6) q1 q3 (by rw [hsl]; exact k2_hasslot (q4 k hk)) rfl rfl d fun H' e1 e2 e3 => ?_
  rw [hsl] at e1 ⊢
  exact kk H' _ ls (wn_puts hws hne ⟨_, hc, t_OB.to (V := updV (vp_V fs) k v) ⟨_, e1, q2, q3, t_set q4 hap hk v⟩ (fun j _ => vp_updV_set hl0 v j)⟩ e3) (e2.trans hz) (hS.put e2 e3 hh) hl
end ZN
/-- a constructor: its object's cell and the new ones -/
abbrev RgC (h sz : Nat) : Nat → Prop := fun q => q = h ∨ sz ≤ q
def CN (l : Launch) (D : va_G) (cs : Nat → ClassId) (y : MethodName) (cc : ByteArray) (nL h mc ms sz h0 : Nat) (as : List Value) (o : Nat × List Value) (post : va_W) (k : Nat) : Prop :=
  Met l y (wsy y cc nL none) (rmm h mc ms) (va_Pc (.ref h0 :: as) (fun U => va_at D vwCl (h0, .inr o) U.heap ∧ U.heap.size = sz ∧ va_K D vwCl (tysL cs) U ∧ Nx U ∧ Sx U ∧ va_AOA .int U)) (va_Qv (fun (_ : Unit) => True) (fun _ t => (∀ x ∈ post, va_at D vwCl x t.heap) ∧ t.heap.size = sz + k) (RgC h0 sz)) mc ms (RgC h0 sz)
theorem CN.of {l : Launch} {D : va_G} {cs : Nat → ClassId} {y : MethodName} {cc : ByteArray} {nL h mc ms sz h0 : Nat} {as : List Value} {o : Nat × List Value} {post : va_W} {k : Nat} (own : String) (hy : plainName y.cls = true) (ho : y.cls = own) (hyn : y.name = "<init>") (hlen : (lg_sl (.ref h0 :: as)).length ≤ nL)
    (body : ∀ (p : Program) (e : Env) (s : State) (m : MethodId) (args : Array Value) (below : List Frame) (meth : Method) (c : Code), Cx p s m args meth c cc nL own → Kn D cs (RgC h0 sz) s → meth.sig.returnType = none → meth.name = "<init>" → h0 < sz →
      Wn p l e (rmm h mc ms) s m args below meth c D (RgC h0 sz) s.heap nL (MQ below (va_Qv (fun (_ : Unit) => True) (fun _ t => (∀ x ∈ post, va_at D vwCl x t.heap) ∧ t.heap.size = sz + k) (RgC h0 sz)) args s mc ms (RgC h0 sz)) 0 0 sz [(h0, .inr o)] 0 (entryLo (.ref h0 :: as) nL) []) : CN l D cs y cc nL h mc ms sz h0 as o post k := by
  refine Met.ofW (cc := cc) (maxL := nL) (ret := none) hy rfl ?_
  intro p e s m args below meth c s₁ B hml hv
  obtain ⟨rfl, hP, hz, hK, hN, hX, hA⟩ := hv
  have hts := atoms_spec (ws := wsy y cc nL none) B.pre
  have hown : s.vm.findClass own = some m.cls := ho ▸ findClass_of_methodNamed B.named
  rw [lg_entry_eq]
  exact body p e s m (.ref h0 :: as).toArray below meth c ⟨B.exec, B.bytes, hml, hown, fun w hw => hts w (List.mem_cons_of_mem _ hw), B.notSynchronized⟩ ⟨hK, fun q hq => Or.inr (by omega), hN, hX, hA⟩ B.returns ((name_of_methodNamed B.named B.method).1.trans hyn) (by have := hP.lt; rw [hz] at this; exact this) s.heap [] _ (fun x hx => by rw [List.mem_singleton.mp hx]; exact hP) hz va_S.rf (lo_entry _ hlen)
section ZO
variable {p : Program} {l : Launch} {e : Env} {R : Room} {s : State} {m : MethodId} {args : Array Value} {below : List Frame} {meth : Method} {c : Code} {D : va_G} {cs : Nat → ClassId} {A : Nat → Prop} {nL : Nat} {Q : State → Prop} {mc ms sz : Nat} {ws : va_W} {pc : Nat} {lo : List (Option Value)} {st : List Value} {cc : ByteArray} {own : String}
theorem wn_ret (X : Cx p s m args meth c cc nL own) {h0 sz0 k mc' ms' : Nat} {post : va_W} (hr : meth.sig.returnType = none) (hm : mc = mc' ∧ ms = ms') (hk : sz = sz0 + k) (hsub : ∀ x ∈ post, x ∈ ws) (d : decode cc pc = .ok (.return_, 1)) : Wn p l e R s m args below meth c D (RgC h0 sz0) s.heap nL (MQ below (va_Qv (fun (_ : Unit) => True) (fun _ t => (∀ x ∈ post, va_at D vwCl x t.heap) ∧ t.heap.size = sz0 + k) (RgC h0 sz0)) args s mc' ms' (RgC h0 sz0)) mc ms sz ws pc lo [] := fun H locs ls hw hz hS hl => by
  obtain ⟨rfl, rfl⟩ := hm
  exact W.vret X.1 X.2.1 hr (fun t ht _ => ⟨⟨(), rfl, trivial, (by rw [ht]; exact fun x hx => hw x (hsub x hx)), by rw [ht, hz, hk]⟩, hS.F ht⟩) hS.2.2 d X.2.2.2.2.2
theorem wn_join {H H1 : Heap} {h0 : Nat} {o : Nat × List Value} {post : va_W} (hw : ∀ x ∈ (h0, .inr o) :: ws, va_at D vwCl x H) (hne : ∀ x ∈ ws, x.1 ≠ h0) (hp : ∀ x ∈ post, va_at D vwCl x H1) (hk : ∀ q : Nat, q < H.size → ¬ RgC h0 H.size q → H1[q]? = H[q]?) : ∀ x ∈ post ++ ws, va_at D vwCl x H1 := fun x hx => by
  rcases List.mem_append.mp hx with hx | hx
  · exact hp x hx
  · have h1 := hw x (List.mem_cons_of_mem _ hx)
    exact h1.kept (hk _ h1.lt (fun q => q.elim (hne x hx) (fun q => by have := h1.lt; omega)))
theorem pre_N (K : Kn D cs A s) {H : Heap} {h0 : Nat} {o : Nat × List Value} {As : List Value} (hw : va_at D vwCl (h0, .inr o) H) (hz : H.size = sz) : PreS s H (va_Pc (.ref h0 :: As) (fun U => va_at D vwCl (h0, .inr o) U.heap ∧ U.heap.size = sz ∧ va_K D vwCl (tysL cs) U ∧ Nx U ∧ Sx U ∧ va_AOA .int U)) (.ref h0 :: As) :=
  ⟨fun a U g mk q => ⟨q.1, q.2.1, q.2.2.1, va_K.moved (u := U) (U := U.calling g mk a) (Vm.Alike.refl U.vm) q.2.2.2.1, Nx.same (u := U) (U := U.calling g mk a) rfl q.2.2.2.2.1, Sx.same (u := U) (U := U.calling g mk a) rfl q.2.2.2.2.2.1, AOA_moved (u := U) (U := U.calling g mk a) (Vm.Alike.refl U.vm) q.2.2.2.2.2.2⟩, fun U hU hW => ⟨rfl, by rw [hU]; exact hw, by rw [hU]; exact hz, va_K.moved hW.alike K.1, K.2.2.1.warm hW, K.2.2.2.1.warm hW, AOA_moved hW.alike K.2.2.2.2⟩⟩
/-- the constructor of a nest mate, of another class -/
theorem wn_callN (X : Cx p s m args meth c cc nL own) (K : Kn D cs A s) {y : MethodName} {host : String} {bytes : ByteArray} {maxL index n h mc1 ms1 h0 k : Nat} {o : Nat × List Value} {As st1 : List Value} {post : va_W} (hC : CN l D cs y bytes maxL h mc1 ms1 sz h0 As o post k) (hyn : y.name = "<init>") (L : Cond.methodLinkNest own index y host ∈ NW ∧ Cond.instanceMethod y ∈ TB ∧ Cond.initialized y.cls ∈ TB ∧ Cond.code y bytes maxL none ∈ TB) (hd : dcl y n) (hst : st1 = As.reverse ++ .ref h0 :: st) (hn : As.length = n) (hne : ∀ x ∈ ws, x.1 ≠ h0) (hh : A h0) (hA : ∀ q, sz ≤ q → A q) (hW : (st.map fun v => v.category).sum ≤ 8) (hR : (h + 1 ≤ R.frames ∧ 8 + (maxL + 11) + (100 + 28 * h) ≤ R.locals) ∧ mc + mc1 ≤ R.cells ∧ ms + ms1 ≤ R.slots) (d : decode cc pc = .ok (.invokespecial index, 3))
    (kk : Wn p l e R s m args below meth c D A s.heap nL Q (mc + mc1) (ms + ms1) (sz + k) (post ++ ws) (pc + 3) lo st) : Wn p l e R s m args below meth c D A s.heap nL Q mc ms sz ((h0, .inr o) :: ws) pc lo st1 := fun H locs ls hw hz hS hl => by
  subst hst
  subst hz
  have hf : ∀ q, RgC h0 H.size q → A q := fun q h => h.elim (fun e => e ▸ hh) (hA q)
  refine va_callv (va_runIN (As := As) (rest := st) ⟨X.1, X.2.1, X.2.2.1, X.2.2.2.1, X.2.2.2.2.1⟩ hC ⟨va_cnB n X.2.2.2.2.1 (wsy_in L.2.2.2) rfl rfl rfl (K.2.2.1 _ L.1) (X.2.2.2.2.1 _ L.2.2.1) hd hR.1, hyn, X.2.2.2.2.1 _ L.2.1⟩ (pre_N K (hw _ List.mem_cons_self) rfl) rfl hn hl.1 rfl (by show 2 * 0 + _ ≤ 8; omega) d hR.2) hS (fun q _ h => hf q h) hf (fun u t H1 locs1 ht _ _ hB hz1 hk1 hS1 => ?_)
  rw [ht] at hB
  exact kk H1 locs1 ls (wn_join hw hne hB.1 hk1) hB.2 hS1 hl
theorem wn_callI (X : Cx p s m args meth c cc nL own) (K : Kn D cs A s) {y : MethodName} {bytes : ByteArray} {maxL index n h mc1 ms1 h0 k : Nat} {o : Nat × List Value} {As st1 : List Value} {post : va_W} (hC : CN l D cs y bytes maxL h mc1 ms1 sz h0 As o post k) (hyn : y.name = "<init>") (L : Cond.methodLink own index y ∈ TB ∧ Cond.instanceMethod y ∈ TB ∧ Cond.initialized y.cls ∈ TB ∧ Cond.code y bytes maxL none ∈ TB) (hd : dcl y n) (hst : st1 = As.reverse ++ .ref h0 :: st) (hn : As.length = n) (hne : ∀ x ∈ ws, x.1 ≠ h0) (hh : A h0) (hA : ∀ q, sz ≤ q → A q) (hW : (st.map fun v => v.category).sum ≤ 8) (hR : (h + 1 ≤ R.frames ∧ 8 + (maxL + 11) + (100 + 28 * h) ≤ R.locals) ∧ mc + mc1 ≤ R.cells ∧ ms + ms1 ≤ R.slots) (d : decode cc pc = .ok (.invokespecial index, 3))
    (kk : Wn p l e R s m args below meth c D A s.heap nL Q (mc + mc1) (ms + ms1) (sz + k) (post ++ ws) (pc + 3) lo st) : Wn p l e R s m args below meth c D A s.heap nL Q mc ms sz ((h0, .inr o) :: ws) pc lo st1 := fun H locs ls hw hz hS hl => by
  subst hst
  subst hz
  have hf : ∀ q, RgC h0 H.size q → A q := fun q h => h.elim (fun e => e ▸ hh) (hA q)
  refine va_callv (va_runI (As := As) (rest := st) ⟨X.1, X.2.1, X.2.2.1, X.2.2.2.1, X.2.2.2.2.1⟩ hC ⟨callB_of n X.2.2.2.2.1 (wsy_in L.2.2.2) rfl rfl rfl (X.2.2.2.2.1 _ L.2.2.1) (X.2.2.2.2.1 _ L.1) hd hR.1, hyn, X.2.2.2.2.1 _ L.2.1⟩ (pre_N K (hw _ List.mem_cons_self) rfl) rfl hn hl.1 rfl (by show 2 * 0 + _ ≤ 8; omega) d hR.2) hS (fun q _ h => hf q h) hf (fun u t H1 locs1 ht _ _ hB hz1 hk1 hS1 => ?_)
  rw [ht] at hB
  exact kk H1 locs1 ls (wn_join hw hne hB.1 hk1) hB.2 hS1 hl
end ZO
