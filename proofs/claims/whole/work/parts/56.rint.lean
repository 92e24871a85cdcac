/-! Math.rint: a row of the table of natives, which calls StrictMath.rint and hands its answer on -/
def rintRow : NativeRow := (NativeRow.find? Native.java_lang_Math.nans.rows "java/lang/Math" "rint" "(D)D").get (by decide +kernel)
set_option maxRecDepth 100000 in
theorem rint_row (p : Program) : NativeRow.find? p.tables.natives "java/lang/Math" "rint" "(D)D" = some rintRow := by
  cases p <;> rfl
theorem rint_run (b : UInt64) (e : Env) (S : State) {cS : ClassId} {kS : Class} {i : Nat} (hf : S.vm.findClass "java/lang/StrictMath" = some cS) (hk : S.vm.classes[cS]? = some kS) (hi : kS.init = .initialized) (hm : kS.findMethod "rint" "(D)D" = some i) :
    ∃ acts, (rintRow.sem #[.double b]).run e S = .ctl (.call ⟨cS, i⟩ #[.double b] 1 #[]) S acts := by
  have hsem : rintRow.sem #[.double b] = (do
      let c ← classNamed "java/lang/StrictMath"
      ensureInit c
      let some i := (← theClass c).findMethod "rint" "(D)D" | modelBug ("StrictMath lacks " ++ "rint")
      callThen ⟨c, i⟩ #[.double b] 1 #[]) := rfl
  have hw : wpRun (rintRow.sem #[.double b]) (fun _ _ _ => False) (fun c s₂ _ => c = .call ⟨cS, i⟩ #[.double b] 1 #[] ∧ s₂ = S) e S := by
    rw [hsem]
    simp [jvm, wpRun, W.classNamed_ready hf, W.ensureInit_ready ⟨kS, hk, hi⟩, theClass, callThen, hk, hm]
    exact ⟨rfl, rfl, rfl, rfl⟩
  have hw' := (wpRun_iff_run _ _ _ _ _).mp hw
  cases hr : (rintRow.sem #[.double b]).run e S with
  | ok v s₂ acts₂ => rw [hr] at hw'; exact hw'.elim
  | ctl x s₂ acts₂ =>
    rw [hr] at hw'
    have h2 : x = .call ⟨cS, i⟩ #[.double b] 1 #[] ∧ s₂ = S := by cases x <;> first | exact hw' | exact hw'.elim
    obtain ⟨rfl, rfl⟩ := h2
    exact ⟨_, rfl⟩
theorem rint_resume {r : UInt64} (hn : vf_n64 r) (e : Env) (S : State) :
    ∃ acts, (rintRow.resume 1 #[] (.returned (some (.double r)))).run e S = .ok (some (.double r)) S acts := by
  have hn' : r &&& 0x7fffffffffffffff ≤ 0x7ff0000000000000 := hn
  have hsem : rintRow.resume 1 #[] (.returned (some (.double r))) = (do
      let r ← anyNaN64 r
      mark "nat.java_lang_Math.rint"
      Pure.pure (some (.double r))) := rfl
  have hw : wpRun (rintRow.resume 1 #[] (.returned (some (.double r)))) (fun v s₂ _ => v = some (.double r) ∧ s₂ = S) (fun _ _ _ => False) e S := by
    rw [hsem]
    simp [jvm, wpRun, anyNaN64, hn']
  have hw' := (wpRun_iff_run _ _ _ _ _).mp hw
  cases hr : (rintRow.resume 1 #[] (.returned (some (.double r)))).run e S with
  | ok v s₂ acts₂ => rw [hr] at hw'; obtain ⟨rfl, rfl⟩ := hw'; exact ⟨_, rfl⟩
  | ctl x s₂ acts₂ => rw [hr] at hw'; cases x <;> exact hw'.elim
/-- the frame of the row while StrictMath.rint runs -/
abbrev nfR (m : MethodId) (b : UInt64) (w : Bool) (o : Option Outcome) : NFrame := { method := m, args := #[.double b], stage := 1, saved := #[], awaiting := w, answer := o, words := 0 }
/-- the steps of a call of Math.rint, by a contract of StrictMath.rint -/
theorem rint_steps (l : Launch) (p : Program) {yS : MethodName} {S : Spec} {P : Array Value → State → Prop} {Q : Array Value → State → Outcome → State → Prop} (hM : MetFree l yS S P (fun _ _ _ _ _ => True) Q)
    {e : Env} (hadm : l.admits e) (hcas : FairCas e.choices) (hclk : FairClock e.choices) {below : List Frame} {s : State} {g : JFrame} {c : Code}
    (htopS : s.topJava?.isSome) (habove : ∃ mid, s.frames.tail = mid ++ below) (hrunning : s.status = .running) (hrunnable : s.curStatus? = some .runnable) (haloneS : s.alone = true) (hcodeG : s.code? g.method = some c)
    {m : MethodId} {meth : Method} {k : Class} {cm : Code} {b : UInt64} (acts : List Action)
    (hk : s.vm.classes[m.cls]? = some k) (hx : k.methods[m.idx]? = some meth) (hboot : k.loader = none)
    (hkn : k.name = "java/lang/Math") (hmn : meth.name = "rint") (hmd : meth.desc = "(D)D") (hsig : parseMethodDescriptor "(D)D" = some meth.sig)
    (hc : meth.code = some cm) (hml : cm.maxLocals = 2) (hl : meth.locks = false)
    (hroom : (s.calling g m #[.double b]).hasRoom e.platform {} = true)
    {cS : ClassId} {kS : Class} {i : Nat} (hfS : s.vm.findClass "java/lang/StrictMath" = some cS) (hkS : s.vm.classes[cS]? = some kS) (hiS : kS.init = .initialized) (hmS : kS.findMethod "rint" "(D)D" = some i)
    (happ : S.appliesLoose yS e.platform ((s.setFrames (.native (nfR m b true none) :: .java g :: s.frames.tail)).pushFrame (.invoking ⟨cS, i⟩ #[.double b])) = true)
    (hP : P #[.double b] ((s.setFrames (.native (nfR m b true none) :: .java g :: s.frames.tail)).pushFrame (.invoking ⟨cS, i⟩ #[.double b])))
    (hQ : ∀ o t, Q #[.double b] ((s.setFrames (.native (nfR m b true none) :: .java g :: s.frames.tail)).pushFrame (.invoking ⟨cS, i⟩ #[.double b])) o t → ∃ (r : UInt64) (L : List Loc), o = .returned (some (.double r)) ∧ vf_n64 r ∧ FrameEnd ((s.setFrames (.native (nfR m b true none) :: .java g :: s.frames.tail)).pushFrame (.invoking ⟨cS, i⟩ #[.double b])) o t L 0 0)
    {ig : Instr} {len : Nat} (hdg : decode c.code g.pc = .ok (ig, len)) :
    ∃ (r : UInt64) (s₂ : State), Q #[.double b] ((s.setFrames (.native (nfR m b true none) :: .java g :: s.frames.tail)).pushFrame (.invoking ⟨cS, i⟩ #[.double b])) (.returned (some (.double r))) s₂ ∧
      Steps p.tables e below (doInvoke e (s.setTop g) acts m #[.double b]).1 (s₂.setFrames (.java { g with pc := g.pc + len, stack := .double r :: g.stack } :: s.frames.tail)) := by
  obtain ⟨g₀, hg⟩ := Option.isSome_iff_exists.mp htopS
  obtain ⟨r, hr⟩ := State.topJava?_eq_some.mp hg
  obtain ⟨mid, hmid⟩ := habove
  have hcur : s.cur < s.threads.size := State.cur_lt_of_frames hr
  have hm : s.vm.method? m = some meth := by simp [Vm.method?, hk, hx]
  have htop : s.setTop g = s.setFrames (.java g :: r) := State.setTop_of_frames _ hr
  have htail : s.frames.tail = r := by rw [hr]; rfl
  rw [htail] at happ hP hQ hmid ⊢
  have hfull : e.platform.stackFull (s.setTop g).me (s.setTop g).frames cm.maxLocals = false := by
    have hfc := State.frames_calling htopS g m #[.double b]
    obtain ⟨-, r2, -, r4⟩ := State.hasRoom_stack hroom
    rw [State.localsInUse_invoking hfc (meth := meth) (c := cm) hm hc] at r4
    rw [hfc, htail] at r2
    rw [htail] at r4
    have hw := stackUse_le_stackWeight (.java g :: r)
    rw [State.calling_eq htopS, State.stackLimits_setFrames] at r2 r4
    rw [htop, State.frames_setFrames _ hcur]
    refine Platform.stackFull_eq_false (by rw [State.stackLimits_setFrames]; simp only [List.length_cons] at r2 ⊢; have : ({} : Room).frames = 0 := rfl; omega) (by rw [State.stackLimits_setFrames]; have : ({} : Room).locals = 0 := rfl; omega)
  rw [(doInvoke_java (s := s.setTop g) (e := e) (acts := acts) (args := #[.double b]) (meth := meth) (code := cm) hm hc hl hfull).1, hml]
  have hU : (s.setTop g).pushFrame (.java { method := m, pc := 0, locals := argsToLocals #[.double b] 2, stack := [], locked := none }) = s.setFrames (.java (entryFrame m #[.double b] 2) :: .java g :: r) := by
    rw [State.pushFrame, State.frames_setTop _ hr, htop, State.setFrames_setFrames]
    rfl
  rw [hU]
  have hf1 : (s.setFrames (.java (entryFrame m #[.double b] 2) :: .java g :: r)).frames = .java (entryFrame m #[.double b] 2) :: .java g :: r := State.frames_setFrames _ hcur
  have hov : overridden p.tables e (s.setFrames (.java (entryFrame m #[.double b] 2) :: .java g :: r)) (entryFrame m #[.double b] 2) = some rintRow :=
    Free.Fl.Abs.overridden_some (k := k) (x := meth) rfl hk (by rw [hkn]; decide) hboot hx (by rw [hkn, hmn, hmd]; exact rint_row p)
  have hb2 : ∀ F : List Frame, ((s.setFrames F).vm.classes[m.cls]?.bind fun y => y.methods[m.idx]?) = some meth := by
    intro F
    show (s.vm.classes[m.cls]?.bind fun y => y.methods[m.idx]?) = some meth
    simp [hk, hx]
  have hsig2 : parseMethodDescriptor "(D)D" = some { parameters := [.double], returnType := some .double } := by decide +kernel
  have hparams : meth.sig.parameters.length = 1 := by
    have h3 := hsig
    rw [hsig2] at h3
    rw [← Option.some.inj h3]
    rfl
  have htake : ∀ n : Nat, List.take (1 + n) [Value.double b] = [Value.double b] := by
    intro n
    exact List.take_of_length_le (Nat.le_add_right 1 n)
  obtain ⟨acts₂, hr2⟩ := rint_run b e (s.setFrames (.native { method := m, args := #[.double b] } :: .java g :: r)) (cS := cS) (kS := kS) (i := i) hfS hkS hiS hmS
  have hwords : ∀ F : List Frame, (((s.setFrames F).vm.classes[m.cls]?).bind fun k => (k.methods[m.idx]?).map fun n => upcallWords k.name n.name).getD 0 = 0 := by
    intro F
    show ((s.vm.classes[m.cls]?).bind fun k => (k.methods[m.idx]?).map fun n => upcallWords k.name n.name).getD 0 = 0
    simp [hk, hx, hkn, hmn, upcallWords]
  have hstep2 : (stepThread p.tables e (s.setFrames (.java (entryFrame m #[.double b] 2) :: .java g :: r))).1 = (doInvoke e (s.setFrames (.native (nfR m b true none) :: .java g :: r)) acts₂ ⟨cS, i⟩ #[.double b]).1 := by
    unfold stepThread
    simp only [hf1, hov]
    have hb3 : (s.vm.classes[m.cls]?.bind fun x => x.methods[m.idx]?) = some meth := by simp [hk, hx]
    have hw3 : ((s.vm.classes[m.cls]?).bind fun k => Option.map (fun n => upcallWords k.name n.name) k.methods[m.idx]?).getD 0 = 0 := by simp [hk, hx, hkn, hmn, upcallWords]
    simp [entryFrame, argsToLocals, Value.category, argCount, hb2, hb3, hparams, htake, hr2, afterNative, hwords, hw3, State.setFrames_setFrames]
  have hfN : (s.setFrames (.native (nfR m b true none) :: .java g :: r)).frames = (.native (nfR m b true none) :: .java g :: mid) ++ below := by rw [State.frames_setFrames _ hcur, hmid]; rfl
  obtain ⟨o, s₂, hsteps, hrun2, hend, hq⟩ := Steps.callFree hM p hadm hcas hclk (s := (s.setFrames (.native (nfR m b true none) :: .java g :: r))) (m := ⟨cS, i⟩) (args := #[.double b]) (acts := acts₂) hfN happ hP trivial
  obtain ⟨z, L, rfl, hn, hfe⟩ := hQ o s₂ hq
  rw [State.frames_setFrames _ hcur] at hend
  replace hend : s₂.frames = .native (nfR m b false (some (.returned (some (.double z))))) :: .java g :: r := hend
  refine ⟨z, s₂, hq, ?_⟩
  refine Steps.head ⟨hrunning, by simpa using hrunnable, by simpa using haloneS⟩ ⟨.java (entryFrame m #[.double b] 2) :: .java g :: mid, by rw [hf1, hmid]; rfl, by simp, by simp⟩ ?_
  rw [hstep2]
  refine hsteps.trans ?_
  obtain ⟨-, hW₂, e2, -⟩ := id hfe
  have hal : s.vm.Alike s₂.vm := hW₂.alike
  obtain ⟨k', hk', ek⟩ := hal.2.2 _ _ hk
  have hboot' : k'.loader = none := by rw [ek]; exact hboot
  have hx' : k'.methods[m.idx]? = some meth := by rw [ek]; exact hx
  have hkn' : k'.name = "java/lang/Math" := by rw [ek]; exact hkn
  obtain ⟨acts₃, hr3⟩ := rint_resume hn e s₂
  have hcode2 : s₂.code? g.method = some c := by
    have h1 : s₂.code? g.method = s.code? g.method := by rw [State.code?_eq, State.code?_eq, hal.method?]
    rw [h1]; exact hcodeG
  have hfs : handOver s₂ (some (.double z)) (.java g :: r) = some (.java { g with pc := g.pc + len, stack := .double z :: g.stack } :: r) := by
    simp [handOver, hcode2, hdg, Except.toOption]
  have hstep4 : (stepThread p.tables e s₂).1 = s₂.setFrames (.java { g with pc := g.pc + len, stack := .double z :: g.stack } :: r) := by
    rw [Free.Hsc.stepThread_resumed' (f := nfR m b false (some (.returned (some (.double z))))) (o := .returned (some (.double z))) hend hk' hboot' hx' (by rw [hkn', hmn, hmd]; exact rint_row p) rfl]
    show (afterNative e _ _ ((rintRow.resume 1 #[] (.returned (some (.double z)))).run e s₂)).1 = _
    rw [hr3]
    exact doReturn_native (f := nfR m b false (some (.returned (some (.double z))))) hend rfl hfs
  have hcs : s₂.curStatus? = some .runnable := by
    have h1 : s₂.curStatus? = ({ s₂ with vm := ((s.setFrames (.native (nfR m b true none) :: .java g :: r)).pushFrame (.invoking ⟨cS, i⟩ #[.double b])).vm } : State).curStatus? := rfl
    rw [h1, e2]
    show (((s.setFrames (.native (nfR m b true none) :: .java g :: r)).pushFrame (.invoking ⟨cS, i⟩ #[.double b])).setFrames _).curStatus? = _
    simpa [State.pushFrame] using hrunnable
  have hal2 : s₂.alone = true := by
    have h1 : s₂.alone = ({ s₂ with vm := ((s.setFrames (.native (nfR m b true none) :: .java g :: r)).pushFrame (.invoking ⟨cS, i⟩ #[.double b])).vm } : State).alone := rfl
    rw [h1, e2]
    show (((s.setFrames (.native (nfR m b true none) :: .java g :: r)).pushFrame (.invoking ⟨cS, i⟩ #[.double b])).setFrames _).alone = _
    simpa [State.pushFrame] using haloneS
  refine Steps.head ⟨hrun2, hcs, hal2⟩ ⟨.native (nfR m b false (some (.returned (some (.double z))))) :: .java g :: mid, by rw [hend, hmid]; rfl, by simp, by simp⟩ ?_
  rw [hstep4]
  exact Steps.refl _
/-- a call of Math.rint comes back as StrictMath.rint's contract says -/
theorem rint_back {l : Launch} {R : Room} {p : Program} {e : Env} {below : List Frame} {s : State} {sargs : Array Value} {own : String} {m : MethodId} {meth : Method} {c : Code} {cc : ByteArray} {nL : Nat} (X0 : Cx p s m sargs meth c cc nL own)
    {D : va_G} {cs : Nat → ClassId} {ids : List Ix} {ad : Ix → Nat} {σ : Mem} {b : UInt64} {Post : UInt64 → Mem → Prop} (hM : CD l D cs ids ad yJxfc994_rint_294c1 cJxfc994_rint_294c1 6 2 [.double b] σ Post) (hn : ∀ z τ, Post z τ → vf_n64 z)
    (hfr : 5 ≤ R.frames) (hlo : 1300 ≤ R.locals) :
    Back l R p e below s sargs yJ9_rint_294c1 3 8 (fun A a => A.cells ≤ R.cells ∧ A.slots ≤ R.slots ∧ a = #[.double b] ∧ Wo D cs ids ad σ A.U)
      (fun A a v B => ∃ (st t : State) (L : List Loc), st.heap = A.U.heap ∧ B.U.heap = t.heap ∧ B.U.vm = t.vm ∧ qD D cs ids ad Post a st (.returned v) t ∧ B.locs = A.locs ++ L ∧ (∀ q ∈ L, Rg ids ad q.base) ∧ B.cells = A.cells ∧ B.slots = A.slots) := by
  intro m meth c A g ig mk a' X hg hsize hdg hW hnamed ⟨hc, hs, ha', hWo⟩
  subst ha'
  obtain ⟨U, Ls, c0, s0⟩ := A
  dsimp only [Pt.U, Pt.locs, Pt.cells, Pt.slots] at hc hs hWo X hnamed ⊢
  have wat : ∀ w ∈ TB, w.before #[.double b] U = true := fun w hw => word_at X.warmed (good_of_word (TB_good hw)) (X0.2.2.2.2.1 w hw)
  have hcodeU := wat _ tw_800
  obtain ⟨methM, cM, hmethM, hcodeM', -, hlocalsM, -, hlocksM, -, hsigM⟩ := Cond.code_spec hnamed hcodeU
  obtain ⟨kP, hkP, hkname⟩ := className_of_methodNamed hnamed
  obtain ⟨hmnM, hmdM⟩ := name_of_methodNamed hnamed hmethM
  have hxP : kP.methods[mk.idx]? = some methM := by simpa [Vm.method?, hkP] using hmethM
  have hbootP : kP.loader = none := Vm.bootOf_findClass (findClass_of_methodNamed hnamed) hkP
  have hCS := wat _ tw_803
  obtain ⟨mS, hnS⟩ := Cond.code_named hCS
  obtain ⟨methS, cSd, hmethS, hcodeS, -, hlocS, -, -, -, -⟩ := Cond.code_spec hnS hCS
  obtain ⟨kS, hkS, -⟩ := className_of_methodNamed hnS
  have hfS : U.vm.findClass "java/lang/StrictMath" = some mS.cls := findClass_of_methodNamed hnS
  have hiS : kS.init = .initialized := Cond.initialized_spec hfS hkS (wat _ tw_17)
  have hmS : kS.findMethod "rint" "(D)D" = some mS.idx := by
    have h := hnS
    simp only [State.methodNamed?, Option.bind_eq_bind, Option.pure_def] at h
    rw [hfS] at h
    simp only [Option.bind_some, hkS] at h
    cases hfm : kS.findMethod "rint" "(D)D" with
    | none => rw [hfm] at h; cases h
    | some j => rw [hfm] at h; simp at h; rw [← h]
  have h : At U g.method c below := by rw [hg]; exact X.here
  obtain ⟨g₀, hg0⟩ := Option.isSome_iff_exists.mp h.top
  obtain ⟨r, hr⟩ := State.topJava?_eq_some.mp hg0
  have hcur : U.cur < U.threads.size := State.cur_lt_of_frames hr
  have htail : U.frames.tail = r := by rw [hr]; rfl
  have eFirst : (U.setFrames (.native (nfR mk b true none) :: .java g :: U.frames.tail)).pushFrame (.invoking ⟨mS.cls, mS.idx⟩ #[.double b]) = U.setFrames (.invoking mS #[.double b] :: .native (nfR mk b true none) :: .java g :: r) := by
    rw [State.pushFrame, State.frames_setFrames _ hcur, State.setFrames_setFrames, htail]
  have hroomS : (U.calling g mS #[.double b]).hasRoom e.platform { frames := 2 + 1, locals := 220 + 1024, cells := 0, slots := 0 } = true :=
    X.room_calling hsize hmethS hcodeS (R' := { frames := 2 + 1, locals := 220 + 1024, cells := 0, slots := 0 }) (by show 2 + 1 + 1 ≤ R.frames; omega) (by rw [hlocS]; show _ + (220 + 1024) ≤ _; omega) (by show c0 + 0 ≤ R.cells; omega) (by show s0 + 0 ≤ R.slots; omega)
  rw [State.calling_eq h.top, htail] at hroomS
  have happ : (headSpec (wsy yJxfc994_rint_294c1 cJxfc994_rint_294c1 6 (some .double)) (rmm 2 0 0)).appliesLoose yJxfc994_rint_294c1 e.platform ((U.setFrames (.native (nfR mk b true none) :: .java g :: U.frames.tail)).pushFrame (.invoking ⟨mS.cls, mS.idx⟩ #[.double b])) = true := by
    rw [eFirst]
    refine (Spec.appliesLoose_iff (State.frames_setFrames _ hcur)).mpr ⟨h.running, by simpa using h.runnable, by simpa using h.alone, hnS, rfl, State.classRipe_of (s := U.setFrames _) hkS hiS, Free.Hsc.hasRoom_native (F := 2) (L := 220) (C := 0) (Sl := 0) hcur (Nat.zero_le _) hroomS, ?_⟩
    rw [Cond.before_setFrames]
    exact atoms_intro fun w hw => wat w ((List.mem_cons.mp hw).elim (fun q => q ▸ tw_803) id)
  have hM' : MetFree l yJxfc994_rint_294c1 (headSpec (wsy yJxfc994_rint_294c1 cJxfc994_rint_294c1 6 (some .double)) (rmm 2 0 0)) (va_Pc [.double b] (fun U => Wo D cs ids ad σ U)) (fun _ _ _ _ _ => True) (fun a st o t => qD D cs ids ad Post a st o t ∧ ∃ L, FrameEnd st o t L 0 0 ∧ ∀ q ∈ L, Rg ids ad q.base) := hM
  obtain ⟨z, s₂, hq, hsteps⟩ := rint_steps l p hM' X.admits X.cas X.clock (below := below) (g := g) (c := c) h.top h.above h.running h.runnable h.alone h.code [] hkP hxP hbootP hkname hmnM hmdM hsigM hcodeM' hlocalsM hlocksM
    (X.room_calling hsize hmethM hcodeM' (R' := {}) (by show 0 + 1 ≤ R.frames; omega) (by rw [hlocalsM]; show _ + 0 ≤ _; omega) (by show c0 + 0 ≤ R.cells; omega) (by show s0 + 0 ≤ R.slots; omega))
    hfS hkS hiS hmS happ ⟨rfl, Wo.same (u := U) rfl rfl hWo⟩ (fun o t hq => by
      obtain ⟨⟨⟨r1, u, q1, ⟨q2, q3⟩, q4⟩, q5⟩, L, q6, q7⟩ := hq
      exact ⟨r1, L, q1, by rw [q2]; exact hn _ _ q3, q6⟩) hdg
  obtain ⟨hqq, L, hfe, hL⟩ := hq
  obtain ⟨-, hW₂, e2, q2, q3, q4, q5, q6⟩ := id hfe
  have hW' : U.WarmedH s₂.vm := hW₂
  have e3 : s₂ = ({ U.setFrames s₂.frames with heap := s₂.heap, slotsUsed := s₂.slotsUsed } : State).setVm s₂.vm := by
    have h1 : s₂ = ({ s₂ with vm := ((U.setFrames (.native (nfR mk b true none) :: .java g :: U.frames.tail)).pushFrame (.invoking ⟨mS.cls, mS.idx⟩ #[.double b])).vm } : State).setVm s₂.vm := rfl
    rw [e2, eFirst, State.setFrames_setFrames] at h1
    exact h1
  have hs₂ : s₂.setFrames (.java { g with pc := g.pc + 3, stack := .double z :: g.stack } :: U.frames.tail) = (({ U with heap := s₂.heap, slotsUsed := s₂.slotsUsed } : State).setVm s₂.vm).setTop { g with pc := g.pc + 3, stack := .double z :: g.stack } := by
    have hr' : (({ U with heap := s₂.heap, slotsUsed := s₂.slotsUsed } : State).setVm s₂.vm).frames = .java g₀ :: r := hr
    rw [State.setTop_of_frames _ hr', htail]
    conv => lhs; rw [e3]
    show (({ U.setFrames s₂.frames with heap := s₂.heap, slotsUsed := s₂.slotsUsed } : State).setVm s₂.vm).setFrames _ = _
    have e4 : ∀ F G : List Frame, (({ U.setFrames F with heap := s₂.heap, slotsUsed := s₂.slotsUsed } : State).setVm s₂.vm).setFrames G = (({ U with heap := s₂.heap, slotsUsed := s₂.slotsUsed } : State).setVm s₂.vm).setFrames G := fun F G => by
      show ({ (U.setFrames F).setFrames G with heap := s₂.heap, slotsUsed := s₂.slotsUsed } : State).setVm s₂.vm = _
      rw [State.setFrames_setFrames]; rfl
    exact e4 _ _
  have hsame : U.sameButNew ({ U with heap := s₂.heap, slotsUsed := s₂.slotsUsed } : State) L 0 0 := by
    refine ⟨?_, q2, q3, q4, q5, q6⟩
    obtain ⟨t, ht, -⟩ := State.frames_cons hr
    show ({ U with heap := s₂.heap, slotsUsed := s₂.slotsUsed } : State) = { U.setFrames U.frames with heap := s₂.heap, slotsUsed := s₂.slotsUsed }
    rw [State.setFrames_self ht]
  subst hg
  refine ⟨some (.double z), ⟨(({ U with heap := s₂.heap, slotsUsed := s₂.slotsUsed } : State).setVm s₂.vm), Ls ++ L, c0 + 0, s0 + 0⟩,
    ⟨X.admits, X.cas, X.clock, X.frames, X.room, X.hears, X.method, X.code, (X.here.setHeapUsed s₂.heap s₂.slotsUsed).setVm hW'.alike, X.tail, State.WarmedH.trans X.warmed hW', X.limits, X.bytes, X.same.trans (hsame.setVm s.vm)⟩,
    ⟨_, s₂, L, ?_, rfl, rfl, hqq, rfl, hL, rfl, rfl⟩, ?_⟩
  · rfl
  show Steps p.tables e below _ ((({ U with heap := s₂.heap, slotsUsed := s₂.slotsUsed } : State).setVm s₂.vm).setTop { g with pc := g.pc + 3, stack := .double z :: g.stack })
  rw [← hs₂]
  exact hsteps
section ZRI
variable {p : Program} {l : Launch} {e : Env} {R : Room} {s : State} {m : MethodId} {args : Array Value} {below : List Frame} {meth : Method} {c : Code} {D : va_G} {cs : Nat → ClassId} {ad : Ix → Nat} {A : Nat → Prop} {H0 : Heap} {nL : Nat} {Q : State → Prop} {mc ms : Nat} {σ : Mem} {pc : Nat} {lo : List (Option Value)} {st : List Value} {cc : ByteArray} {own : String}
theorem zr_rint (X : Cx p s m args meth c cc nL own) (K : Kx D cs idsM ad A s) {index : Nat} {a : UInt64} {n : Int} (hw : Cond.methodLink own index yJ9_rint_294c1 ∈ TB) (ha : a.toNat < 2 ^ 63) (hn : 0 ≤ n ∧ n ≤ 8000000000) (h : D8 n a) (hW : (st.map fun v => v.category).sum ≤ 8) (hR : 5 ≤ R.frames ∧ 1300 ≤ R.locals ∧ mc ≤ R.cells ∧ ms ≤ R.slots) (d : decode cc pc = .ok (.invokestatic index, 3))
    (kk : ∀ z : UInt64, D1 (rn8 n) z → Wx p l e R s m args below meth c D cs idsM ad A H0 nL Q mc ms σ (pc + 3) lo (.double z :: st)) : Wx p l e R s m args below meth c D cs idsM ad A H0 nL Q mc ms σ pc lo (.double a :: st) := fun H locs ls hP hS hl => by
  have hM := c_JS_rint l D cs ad K.2.1 (σ := σ) ha hn h
  have L : lkS own index yJ9_rint_294c1 cJ9_rint_294c1 2 (some .double) := ⟨hw, tw_799, tw_16, tw_800⟩
  obtain ⟨⟨-, -, -, -, -, -, hcode, hini, hy, hlen, hlk⟩, hstt⟩ := cb_S (R := R) (mc1 := 0) (ms1 := 0) (h := 0) X L dc_J9_rint_294c1 ⟨by omega, by omega⟩
  have hK := rint_back (l := l) (R := R) (p := p) (e := e) (below := below) X hM (fun z τ q => d1_n q.2) hR.1 hR.2.1
  refine va_calld (mc := 0) (ms := 0) (A1 := Rg idsM ad) (free := Rg idsM ad) (post := fun r (u : UInt64 × Mem) => r = u.1 ∧ (u.2 = σ ∧ D1 (rn8 n) u.1)) (B := fun u t => Pic D cs idsM ad u.2 t.heap) (rest := st) (a := #[.double a]) ?_ hS (fun q _ q1 => Rg_in K q q1) (Rg_in K) (fun r u t H1 locs1 ht _ hw1 hB _ _ hS1 => ?_)
  · intro T hT X1
    obtain ⟨v, vm₁, ⟨U', l2, c2, s2⟩, hW₁, X', ⟨st₀, t, L1, h0, e1, e2, hq, h1, hL, h2, h3⟩, stp⟩ := callS X1 X.1 (bytes := cJ9_rint_294c1) (maxL := 2) (ret := some .double) X.2.2.2.1 hlk hstt hini hcode hy hK (g := F0 m pc ls (.double a :: st)) rfl (hl.1.trans X.2.2.1.symm) (argsL := [.double a]) (rest := st) (fun sig h => (rfl : [Value.double a].length = 1).trans (hlen sig h)) rfl (by show 2 * 0 + _ ≤ 8; omega) (by rw [X.2.1]; exact d) (fun vm₁ hW₁ => ⟨hR.2.2.1, hR.2.2.2, rfl, (by show Pic D cs idsM ad σ T.heap; rw [hT]; exact hP), va_K.moved hW₁.alike K.1, K.2.2.2.2.1.warm hW₁, K.2.2.2.2.2.warm hW₁⟩)
    dsimp only [Pt.U, Pt.locs, Pt.cells, Pt.slots] at X' h0 e1 e2 h1 h2 h3 stp
    subst h1; subst h2; subst h3
    exact ⟨v, st₀, t, U', L1, h0.trans hT, X', hL, e1, e2, hq, stp⟩
  · obtain ⟨rfl, hp⟩ := hw1
    exact kk u.1 hp.2 H1 locs1 ls (by rw [← ht, ← hp.1]; exact hB) hS1 hl
end ZRI
