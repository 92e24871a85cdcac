section
-- ===== PART A: goes FIRST, ahead of the names: the tables' words, and 'selects' of the private methods out of them =====
/-- a private method of a class that the tables say can be made, by its rows of tables_1 -/
def lw_okq (q : MethodName × Nat) : Prop := (q.1.cls ≠ "java/lang/invoke/MethodHandle" ∧ q.1.cls ≠ "java/lang/invoke/VarHandle") ∧ Cond.instantiable q.1.cls q.2 ∈ tables_1 ∧ Cond.privateMethod q.1 ∈ tables_1 ∧ Cond.instanceMethod q.1 ∈ tables_1
theorem lw_p0 : lw_okq (⟨"FlowNetwork", "requireArc", "(I)V"⟩, 5) := ⟨⟨by decide +kernel, by decide +kernel⟩, List.mem_of_getElem? (i := 18) (by decide +kernel), List.mem_of_getElem? (i := 200) (by decide +kernel), List.mem_of_getElem? (i := 201) (by decide +kernel)⟩
theorem lw_p1 : lw_okq (⟨"java/lang/Throwable", "fillInStackTrace", "(I)Ljava/lang/Throwable;"⟩, 6) := ⟨⟨by decide +kernel, by decide +kernel⟩, List.mem_of_getElem? (i := 242) (by decide +kernel), List.mem_of_getElem? (i := 240) (by decide +kernel), List.mem_of_getElem? (i := 241) (by decide +kernel)⟩
theorem lw_p2 : lw_okq (⟨"FlowNetwork$MaximumFlow", "changeCapacity", "(II)V"⟩, 6) := ⟨⟨by decide +kernel, by decide +kernel⟩, List.mem_of_getElem? (i := 69) (by decide +kernel), List.mem_of_getElem? (i := 292) (by decide +kernel), List.mem_of_getElem? (i := 293) (by decide +kernel)⟩
theorem lw_p3 : lw_okq (⟨"FlowNetwork$MaximumFlow", "moveAway", "(III)V"⟩, 6) := ⟨⟨by decide +kernel, by decide +kernel⟩, List.mem_of_getElem? (i := 69) (by decide +kernel), List.mem_of_getElem? (i := 296) (by decide +kernel), List.mem_of_getElem? (i := 297) (by decide +kernel)⟩
theorem lw_p4 : lw_okq (⟨"FlowNetwork$Router", "route", "(III)I"⟩, 7) := ⟨⟨by decide +kernel, by decide +kernel⟩, List.mem_of_getElem? (i := 95) (by decide +kernel), List.mem_of_getElem? (i := 300) (by decide +kernel), List.mem_of_getElem? (i := 301) (by decide +kernel)⟩
theorem lw_p5 : lw_okq (⟨"FlowNetwork$Router", "setHeights", "()V"⟩, 7) := ⟨⟨by decide +kernel, by decide +kernel⟩, List.mem_of_getElem? (i := 95) (by decide +kernel), List.mem_of_getElem? (i := 304) (by decide +kernel), List.mem_of_getElem? (i := 305) (by decide +kernel)⟩
theorem lw_p6 : lw_okq (⟨"FlowNetwork$Router", "findBehind", "(II)I"⟩, 7) := ⟨⟨by decide +kernel, by decide +kernel⟩, List.mem_of_getElem? (i := 95) (by decide +kernel), List.mem_of_getElem? (i := 311) (by decide +kernel), List.mem_of_getElem? (i := 312) (by decide +kernel)⟩
theorem lw_p7 : lw_okq (⟨"FlowNetwork$Network", "otherEnd", "(II)I"⟩, 6) := ⟨⟨by decide +kernel, by decide +kernel⟩, List.mem_of_getElem? (i := 26) (by decide +kernel), List.mem_of_getElem? (i := 315) (by decide +kernel), List.mem_of_getElem? (i := 316) (by decide +kernel)⟩
theorem lw_p8 : lw_okq (⟨"FlowNetwork$Flow", "room", "(II)I"⟩, 3) := ⟨⟨by decide +kernel, by decide +kernel⟩, List.mem_of_getElem? (i := 75) (by decide +kernel), List.mem_of_getElem? (i := 319) (by decide +kernel), List.mem_of_getElem? (i := 320) (by decide +kernel)⟩
theorem lw_p9 : lw_okq (⟨"FlowNetwork$Router", "sweepOnce", "()Z"⟩, 7) := ⟨⟨by decide +kernel, by decide +kernel⟩, List.mem_of_getElem? (i := 95) (by decide +kernel), List.mem_of_getElem? (i := 324) (by decide +kernel), List.mem_of_getElem? (i := 325) (by decide +kernel)⟩
theorem lw_p10 : lw_okq (⟨"FlowNetwork$Router", "isActive", "(I)Z"⟩, 7) := ⟨⟨by decide +kernel, by decide +kernel⟩, List.mem_of_getElem? (i := 95) (by decide +kernel), List.mem_of_getElem? (i := 328) (by decide +kernel), List.mem_of_getElem? (i := 329) (by decide +kernel)⟩
theorem lw_p11 : lw_okq (⟨"FlowNetwork$Router", "pushOut", "(I)V"⟩, 7) := ⟨⟨by decide +kernel, by decide +kernel⟩, List.mem_of_getElem? (i := 95) (by decide +kernel), List.mem_of_getElem? (i := 332) (by decide +kernel), List.mem_of_getElem? (i := 333) (by decide +kernel)⟩
theorem lw_p12 : lw_okq (⟨"FlowNetwork$Flow", "send", "(III)V"⟩, 3) := ⟨⟨by decide +kernel, by decide +kernel⟩, List.mem_of_getElem? (i := 75) (by decide +kernel), List.mem_of_getElem? (i := 339) (by decide +kernel), List.mem_of_getElem? (i := 340) (by decide +kernel)⟩
theorem lw_p13 : lw_okq (⟨"FlowNetwork$Router", "lift", "(I)V"⟩, 7) := ⟨⟨by decide +kernel, by decide +kernel⟩, List.mem_of_getElem? (i := 95) (by decide +kernel), List.mem_of_getElem? (i := 343) (by decide +kernel), List.mem_of_getElem? (i := 344) (by decide +kernel)⟩
theorem lw_p14 : lw_okq (⟨"FlowNetwork", "requireNode", "(I)V"⟩, 5) := ⟨⟨by decide +kernel, by decide +kernel⟩, List.mem_of_getElem? (i := 18) (by decide +kernel), List.mem_of_getElem? (i := 351) (by decide +kernel), List.mem_of_getElem? (i := 352) (by decide +kernel)⟩
theorem lw_p15 : lw_okq (⟨"FlowNetwork$MaximumFlow", "chooseEnds", "(II)Z"⟩, 6) := ⟨⟨by decide +kernel, by decide +kernel⟩, List.mem_of_getElem? (i := 69) (by decide +kernel), List.mem_of_getElem? (i := 374) (by decide +kernel), List.mem_of_getElem? (i := 375) (by decide +kernel)⟩
def lw_privs_1 : List (MethodName × Nat) := [(⟨"FlowNetwork", "requireArc", "(I)V"⟩, 5), (⟨"java/lang/Throwable", "fillInStackTrace", "(I)Ljava/lang/Throwable;"⟩, 6), (⟨"FlowNetwork$MaximumFlow", "changeCapacity", "(II)V"⟩, 6), (⟨"FlowNetwork$MaximumFlow", "moveAway", "(III)V"⟩, 6), (⟨"FlowNetwork$Router", "route", "(III)I"⟩, 7), (⟨"FlowNetwork$Router", "setHeights", "()V"⟩, 7), (⟨"FlowNetwork$Router", "findBehind", "(II)I"⟩, 7), (⟨"FlowNetwork$Network", "otherEnd", "(II)I"⟩, 6), (⟨"FlowNetwork$Flow", "room", "(II)I"⟩, 3), (⟨"FlowNetwork$Router", "sweepOnce", "()Z"⟩, 7), (⟨"FlowNetwork$Router", "isActive", "(I)Z"⟩, 7), (⟨"FlowNetwork$Router", "pushOut", "(I)V"⟩, 7), (⟨"FlowNetwork$Flow", "send", "(III)V"⟩, 3), (⟨"FlowNetwork$Router", "lift", "(I)V"⟩, 7), (⟨"FlowNetwork", "requireNode", "(I)V"⟩, 5), (⟨"FlowNetwork$MaximumFlow", "chooseEnds", "(II)Z"⟩, 6)]
theorem lw_r1 : ∀ q ∈ lw_privs_1, lw_okq q := List.forall_mem_cons.mpr ⟨lw_p0, List.forall_mem_cons.mpr ⟨lw_p1, List.forall_mem_cons.mpr ⟨lw_p2, List.forall_mem_cons.mpr ⟨lw_p3, List.forall_mem_cons.mpr ⟨lw_p4, List.forall_mem_cons.mpr ⟨lw_p5, List.forall_mem_cons.mpr ⟨lw_p6, List.forall_mem_cons.mpr ⟨lw_p7, List.forall_mem_cons.mpr ⟨lw_p8, List.forall_mem_cons.mpr ⟨lw_p9, List.forall_mem_cons.mpr ⟨lw_p10, List.forall_mem_cons.mpr ⟨lw_p11, List.forall_mem_cons.mpr ⟨lw_p12, List.forall_mem_cons.mpr ⟨lw_p13, List.forall_mem_cons.mpr ⟨lw_p14, List.forall_mem_cons.mpr ⟨lw_p15, fun _ h => absurd h List.not_mem_nil⟩⟩⟩⟩⟩⟩⟩⟩⟩⟩⟩⟩⟩⟩⟩⟩
theorem lw_p16 : lw_okq (⟨"FlowNetwork", "requireEnds", "()V"⟩, 5) := ⟨⟨by decide +kernel, by decide +kernel⟩, List.mem_of_getElem? (i := 18) (by decide +kernel), List.mem_of_getElem? (i := 383) (by decide +kernel), List.mem_of_getElem? (i := 384) (by decide +kernel)⟩
theorem lw_p17 : lw_okq (⟨"FlowNetwork$MaximumFlow", "hasEnds", "()Z"⟩, 6) := ⟨⟨by decide +kernel, by decide +kernel⟩, List.mem_of_getElem? (i := 69) (by decide +kernel), List.mem_of_getElem? (i := 387) (by decide +kernel), List.mem_of_getElem? (i := 388) (by decide +kernel)⟩
theorem lw_p18 : lw_okq (⟨"FlowNetwork$MaximumFlow", "greatestValue", "()I"⟩, 6) := ⟨⟨by decide +kernel, by decide +kernel⟩, List.mem_of_getElem? (i := 69) (by decide +kernel), List.mem_of_getElem? (i := 407) (by decide +kernel), List.mem_of_getElem? (i := 408) (by decide +kernel)⟩
theorem lw_p19 : lw_okq (⟨"FlowNetwork$MaximumFlow", "settle", "()V"⟩, 6) := ⟨⟨by decide +kernel, by decide +kernel⟩, List.mem_of_getElem? (i := 69) (by decide +kernel), List.mem_of_getElem? (i := 411) (by decide +kernel), List.mem_of_getElem? (i := 412) (by decide +kernel)⟩
theorem lw_p20 : lw_okq (⟨"FlowNetwork$MaximumFlow", "copy", "(LFlowNetwork$MaximumFlow;)V"⟩, 6) := ⟨⟨by decide +kernel, by decide +kernel⟩, List.mem_of_getElem? (i := 69) (by decide +kernel), List.mem_of_getElem? (i := 420) (by decide +kernel), List.mem_of_getElem? (i := 421) (by decide +kernel)⟩
theorem lw_p21 : lw_okq (⟨"FlowNetwork$Flow", "copy", "(LFlowNetwork$Flow;)V"⟩, 3) := ⟨⟨by decide +kernel, by decide +kernel⟩, List.mem_of_getElem? (i := 75) (by decide +kernel), List.mem_of_getElem? (i := 424) (by decide +kernel), List.mem_of_getElem? (i := 425) (by decide +kernel)⟩
theorem lw_p22 : lw_okq (⟨"FlowNetwork", "movable", "(III)I"⟩, 5) := ⟨⟨by decide +kernel, by decide +kernel⟩, List.mem_of_getElem? (i := 18) (by decide +kernel), List.mem_of_getElem? (i := 440) (by decide +kernel), List.mem_of_getElem? (i := 441) (by decide +kernel)⟩
theorem lw_p23 : lw_okq (⟨"FlowNetwork$Flow", "block", "(I)V"⟩, 3) := ⟨⟨by decide +kernel, by decide +kernel⟩, List.mem_of_getElem? (i := 75) (by decide +kernel), List.mem_of_getElem? (i := 444) (by decide +kernel), List.mem_of_getElem? (i := 445) (by decide +kernel)⟩
theorem lw_p24 : lw_okq (⟨"FlowNetwork", "isCut", "(I)Z"⟩, 5) := ⟨⟨by decide +kernel, by decide +kernel⟩, List.mem_of_getElem? (i := 18) (by decide +kernel), List.mem_of_getElem? (i := 459) (by decide +kernel), List.mem_of_getElem? (i := 460) (by decide +kernel)⟩
theorem lw_p25 : lw_okq (⟨"FlowNetwork$Network", "allNodes", "()I"⟩, 6) := ⟨⟨by decide +kernel, by decide +kernel⟩, List.mem_of_getElem? (i := 26) (by decide +kernel), List.mem_of_getElem? (i := 463) (by decide +kernel), List.mem_of_getElem? (i := 464) (by decide +kernel)⟩
theorem lw_p26 : lw_okq (⟨"FlowNetwork$Flow", "capacityOut", "(I)I"⟩, 3) := ⟨⟨by decide +kernel, by decide +kernel⟩, List.mem_of_getElem? (i := 75) (by decide +kernel), List.mem_of_getElem? (i := 471) (by decide +kernel), List.mem_of_getElem? (i := 472) (by decide +kernel)⟩
theorem lw_p27 : lw_okq (⟨"FlowNetwork$MaximumFlow", "smallestMask", "()I"⟩, 6) := ⟨⟨by decide +kernel, by decide +kernel⟩, List.mem_of_getElem? (i := 69) (by decide +kernel), List.mem_of_getElem? (i := 480) (by decide +kernel), List.mem_of_getElem? (i := 481) (by decide +kernel)⟩
theorem lw_p28 : lw_okq (⟨"FlowNetwork$Flow", "reachableFrom", "(I)I"⟩, 3) := ⟨⟨by decide +kernel, by decide +kernel⟩, List.mem_of_getElem? (i := 75) (by decide +kernel), List.mem_of_getElem? (i := 484) (by decide +kernel), List.mem_of_getElem? (i := 485) (by decide +kernel)⟩
theorem lw_p29 : lw_okq (⟨"FlowNetwork$Flow", "withNeighbours", "(I)I"⟩, 3) := ⟨⟨by decide +kernel, by decide +kernel⟩, List.mem_of_getElem? (i := 75) (by decide +kernel), List.mem_of_getElem? (i := 488) (by decide +kernel), List.mem_of_getElem? (i := 489) (by decide +kernel)⟩
theorem lw_p30 : lw_okq (⟨"FlowNetwork$MaximumFlow", "greatestMask", "()I"⟩, 6) := ⟨⟨by decide +kernel, by decide +kernel⟩, List.mem_of_getElem? (i := 69) (by decide +kernel), List.mem_of_getElem? (i := 497) (by decide +kernel), List.mem_of_getElem? (i := 498) (by decide +kernel)⟩
theorem lw_p31 : lw_okq (⟨"FlowNetwork$Network", "makeNode", "()I"⟩, 6) := ⟨⟨by decide +kernel, by decide +kernel⟩, List.mem_of_getElem? (i := 26) (by decide +kernel), List.mem_of_getElem? (i := 518) (by decide +kernel), List.mem_of_getElem? (i := 519) (by decide +kernel)⟩
def lw_privs_2 : List (MethodName × Nat) := [(⟨"FlowNetwork", "requireEnds", "()V"⟩, 5), (⟨"FlowNetwork$MaximumFlow", "hasEnds", "()Z"⟩, 6), (⟨"FlowNetwork$MaximumFlow", "greatestValue", "()I"⟩, 6), (⟨"FlowNetwork$MaximumFlow", "settle", "()V"⟩, 6), (⟨"FlowNetwork$MaximumFlow", "copy", "(LFlowNetwork$MaximumFlow;)V"⟩, 6), (⟨"FlowNetwork$Flow", "copy", "(LFlowNetwork$Flow;)V"⟩, 3), (⟨"FlowNetwork", "movable", "(III)I"⟩, 5), (⟨"FlowNetwork$Flow", "block", "(I)V"⟩, 3), (⟨"FlowNetwork", "isCut", "(I)Z"⟩, 5), (⟨"FlowNetwork$Network", "allNodes", "()I"⟩, 6), (⟨"FlowNetwork$Flow", "capacityOut", "(I)I"⟩, 3), (⟨"FlowNetwork$MaximumFlow", "smallestMask", "()I"⟩, 6), (⟨"FlowNetwork$Flow", "reachableFrom", "(I)I"⟩, 3), (⟨"FlowNetwork$Flow", "withNeighbours", "(I)I"⟩, 3), (⟨"FlowNetwork$MaximumFlow", "greatestMask", "()I"⟩, 6), (⟨"FlowNetwork$Network", "makeNode", "()I"⟩, 6)]
theorem lw_r2 : ∀ q ∈ lw_privs_2, lw_okq q := List.forall_mem_cons.mpr ⟨lw_p16, List.forall_mem_cons.mpr ⟨lw_p17, List.forall_mem_cons.mpr ⟨lw_p18, List.forall_mem_cons.mpr ⟨lw_p19, List.forall_mem_cons.mpr ⟨lw_p20, List.forall_mem_cons.mpr ⟨lw_p21, List.forall_mem_cons.mpr ⟨lw_p22, List.forall_mem_cons.mpr ⟨lw_p23, List.forall_mem_cons.mpr ⟨lw_p24, List.forall_mem_cons.mpr ⟨lw_p25, List.forall_mem_cons.mpr ⟨lw_p26, List.forall_mem_cons.mpr ⟨lw_p27, List.forall_mem_cons.mpr ⟨lw_p28, List.forall_mem_cons.mpr ⟨lw_p29, List.forall_mem_cons.mpr ⟨lw_p30, List.forall_mem_cons.mpr ⟨lw_p31, fun _ h => absurd h List.not_mem_nil⟩⟩⟩⟩⟩⟩⟩⟩⟩⟩⟩⟩⟩⟩⟩⟩
theorem lw_p32 : lw_okq (⟨"FlowNetwork$Network", "makeArc", "(II)I"⟩, 6) := ⟨⟨by decide +kernel, by decide +kernel⟩, List.mem_of_getElem? (i := 26) (by decide +kernel), List.mem_of_getElem? (i := 527) (by decide +kernel), List.mem_of_getElem? (i := 528) (by decide +kernel)⟩
theorem lw_p33 : lw_okq (⟨"FlowNetwork$Network", "attach", "(II)V"⟩, 6) := ⟨⟨by decide +kernel, by decide +kernel⟩, List.mem_of_getElem? (i := 26) (by decide +kernel), List.mem_of_getElem? (i := 531) (by decide +kernel), List.mem_of_getElem? (i := 532) (by decide +kernel)⟩
def lw_privs_3 : List (MethodName × Nat) := [(⟨"FlowNetwork$Network", "makeArc", "(II)I"⟩, 6), (⟨"FlowNetwork$Network", "attach", "(II)V"⟩, 6)]
theorem lw_r3 : ∀ q ∈ lw_privs_3, lw_okq q := List.forall_mem_cons.mpr ⟨lw_p32, List.forall_mem_cons.mpr ⟨lw_p33, fun _ h => absurd h List.not_mem_nil⟩⟩
def lw_privs : List (MethodName × Nat) := lw_privs_1 ++ (lw_privs_2 ++ (lw_privs_3))
def lw_tbl : List Cond := k2_sels lw_privs ++ tables_1
theorem lw_privs_ok : ∀ q ∈ lw_privs, lw_okq q := by
  show ∀ q ∈ lw_privs_1 ++ (lw_privs_2 ++ (lw_privs_3)), lw_okq q
  exact List.forall_mem_append.mpr ⟨lw_r1, List.forall_mem_append.mpr ⟨lw_r2, lw_r3⟩⟩
/-- the streams that the claim lets the run draw from -/
abbrev lw_cs : List Choice := [Jvm.Choice.named "NaN.bits"]
theorem lw_bits : nanBits ∈ lw_cs := by first | decide | exact List.mem_cons_self | simp [lw_cs, nanBits]
end
section
/-- an array over arrays of ty can be made: the word that the row of new T[n][m] reads -/
def va_AOA (ty : FieldType) (U : State) : Prop := (Cond.arrayOver (.array ty)).before #[] U = true
theorem va_AOA.of {ty : FieldType} {A : Array Value} {U : State} (h : (Cond.arrayOver (.array ty)).before A U = true) : va_AOA ty U := h
theorem va_AOA.use {ty : FieldType} {A : Array Value} {U : State} (h : va_AOA ty U) : (Cond.arrayOver (.array ty)).before A U = true := h
/-! ===== BEGIN words of one list among another's, by their places ===== -/
theorem goodIn_r {big : List Cond} (ws : List Cond) (ps : List Nat) (hp : ws = ps.filterMap (fun i => big[i]?)) (h : ws.all goodWord = true) : GoodIn big ws := by
  intro w hw
  have h1 := List.all_eq_true.mp h w hw
  rw [hp] at hw
  obtain ⟨i, -, hi⟩ := List.mem_filterMap.mp hw
  have hm : w ∈ big := by first | exact List.mem_of_getElem? hi | exact List.getElem?_mem hi
  exact ⟨hm, good_of_word h1⟩
theorem goodIn_app {big a b : List Cond} (ha : GoodIn big a) (hb : GoodIn big b) : GoodIn big (a ++ b) := fun w h => (List.mem_append.mp h).elim (ha w) (hb w)
theorem goodIn_ca {big a b : List Cond} {c : Cond} (ha : GoodIn big (c :: a)) (hb : GoodIn big b) : GoodIn big (c :: (a ++ b)) := fun w h => (List.mem_cons.mp h).elim (fun e => ha w (List.mem_cons.mpr (Or.inl e))) (fun h => (List.mem_append.mp h).elim (fun h => ha w (List.mem_cons.mpr (Or.inr h))) (hb w))
theorem goodIn_sub {big ws : List Cond} (hm : ∀ w ∈ ws, w ∈ big) (h : ws.all goodWord = true) : GoodIn big ws := fun w hw => ⟨hm w hw, good_of_word (List.all_eq_true.mp h w hw)⟩
/-! ===== END ===== -/

/-! ===== BEGIN new T[n][m]: the outer array a place, the inner ones among the pooled ===== -/
/-- f, but v at every address of l -/
def vr_up {α : Type} (f : Nat → α) (l : List Nat) (v : α) : Nat → α := fun a => if a ∈ l then v else f a
theorem vr_up_in {α : Type} {f : Nat → α} {l : List Nat} {v : α} {a : Nat} (h : a ∈ l) : vr_up f l v a = v := if_pos h
theorem vr_up_ne {α : Type} {f : Nat → α} {l : List Nat} {v : α} {a : Nat} (h : a ∉ l) : vr_up f l v a = f a := if_neg h
theorem vr_rows {L l : List Nat} {f : Nat → va_E} {e : va_E} (h : ∀ a, a ∈ l → a ∉ L) : va_pl L f ++ l.map (fun a => (a, e)) = va_pl (L ++ l) (vr_up f l e) := by
  unfold va_pl
  rw [List.map_append]
  congr 1
  · apply List.map_congr_left
    intro a ha
    rw [vr_up_ne (fun q => h a q ha)]
  · apply List.map_congr_left
    intro a ha
    rw [vr_up_in ha]
theorem vr_lay {X rows : va_W} {x : Nat × va_E} {pl : va_W} {D : va_G} {cl : List vw_C} {H : Heap} (hP : va_P D cl (((X ++ pl) ++ [x]) ++ rows) H) : va_P D cl ((X ++ [x]) ++ (pl ++ rows)) H := by
  rw [List.append_assoc (X ++ pl)] at hP
  have h := va_P.swap hP
  rw [← List.append_assoc X] at h
  have h2 := va_P.swap h
  rw [List.append_assoc (X ++ [x])] at h2
  exact h2
theorem vr_layD {X rows : va_W} {x : Nat × va_E} {pl : va_W} {A : Nat → Prop} (hD : va_D A (((X ++ pl) ++ [x]) ++ rows)) : va_D A ((X ++ [x]) ++ (pl ++ rows)) := by
  rw [List.append_assoc (X ++ pl)] at hD
  have h := va_D.swap hD
  rw [← List.append_assoc X] at h
  have h2 := va_D.swap h
  rw [List.append_assoc (X ++ [x])] at h2
  exact h2
theorem vr_outer (c : ClassId) (N h0 : Nat) : ∀ i : Nat, Jvm.Free.Multi.outerC c N h0 i = arrV c N (fun j => va_rf (if j < i then some (h0 + 1 + j) else none))
  | 0 => by
    show ({ cls := c, slots := Array.replicate N .null, vm := .none } : Cell) = _
    rw [arrV_new]
    refine congrArg (arrV c N) (funext fun j => ?_)
    simp [va_rf]
  | i + 1 => by
    show (Jvm.Free.Multi.outerC c N h0 i).setSlot i (.ref (h0 + 1 + i)) = _
    rw [vr_outer c N h0 i, arrV_store]
    refine congrArg (arrV c N) (funext fun j => ?_)
    by_cases e : j = i
    · subst e
      simp [updV, va_rf]
    · by_cases h : j < i
      · simp [updV, e, h, Nat.lt_succ_of_lt h]
      · simp [updV, e, h, show ¬ j < i + 1 by omega]
section VGM
variable {p : Program} {l : Launch} {e : Env} {R : Room} {s : State} {m : MethodId} {args : Array Value} {below : List Frame} {meth : Method} {c : Code} {H : Heap} {locs : List Loc} {cells slots : Nat} {Q : State → Prop}
variable {cc : ByteArray} {pc : Nat} {ls : Array Slot} {rest : List Value} {D : va_G} {cl : List vw_C} {A : Nat → Prop} {a : Nat} {tys : List (ClassId × FieldType)} {ws : va_W} {H0 : Heap}
theorem va_mna {X : va_W} {L : List Nat} {f : Nat → va_E} {cc : ByteArray} (hexec : p.tables.exec = Jvm.exec) (hb : c.code = cc) {own : String} {index : Nat} {ty : FieldType} {cy : ClassId} (hown : s.vm.findClass own = some m.cls) (hclink : (Cond.classLink own index ("[" ++ (FieldType.array ty).toString)).before args s = true) (hover : va_AOA ty s) (harr : (Cond.arrayClass ty).before args s = true) (hcy : s.vm.findClass (FieldType.array ty).toString = some cy)
    (hK : va_K D cl tys s) (hP : va_P D cl (X ++ va_pl L f) H) (hD : va_D A (X ++ va_pl L f)) (hS : va_S A H0 H locs) (hA : ∀ q, H0.size ≤ q → A q) {n k : Int32} {N' K' : Nat} {z : vp_A} (hn : ¬ n < 0) (hk : ¬ k < 0) (hN : n.toNatClampNeg = N') (hM : k.toNatClampNeg = K')
    (hb1 : N' * 4 ≤ 536870912) (hb2 : K' * componentBytes ty ≤ 536870912) (hb3 : K' ≤ 536870912) (hdf : fits ty (defaultValue ty) = true) (hdd : (defaultValue ty).isDefault = true) (hcells : cells + (1 + N') ≤ R.cells) (hslots : slots + (N' + N' * K') ≤ R.slots) (hz : ∀ c : ClassId, Jvm.Free.Multi.innerC c K' (defaultValue ty) = vp_cell c z) (hdg : decode cc pc = .ok (.multianewarray index 2, 4))
    (kk : ∀ (q : Nat) (r : Nat → Nat) (cA : ClassId) (H1 : Heap), (∀ i j : Nat, i < N' → j < N' → r i = r j → i = j) → (∀ i : Nat, i < N' → r i ∉ L) → va_K D cl (tys ++ [(cA, .array ty)]) s →
      va_P D cl ((X ++ [(q, .inl (cA, N', .inr (.inr (.inr (.inr (fun i => if i < N' then some (r i) else none))))))]) ++ va_pl (L ++ (List.range N').map r) (vr_up f ((List.range N').map r) (.inl (cy, z)))) H1 → va_D A ((X ++ [(q, .inl (cA, N', .inr (.inr (.inr (.inr (fun i => if i < N' then some (r i) else none))))))]) ++ va_pl (L ++ (List.range N').map r) (vr_up f ((List.range N').map r) (.inl (cy, z)))) → va_S A H0 H1 locs →
      W p l e R s m args below meth c H1 locs (cells + 1 + N') (slots + N' + N' * K') Q (F0 m (pc + 4) ls (.ref q :: rest))) : W p l e R s m args below meth c H locs cells slots Q (F0 m pc ls (.int k :: .int n :: rest)) := by
  subst hN
  subst hM
  intro T hT Xs
  obtain ⟨vm₁, cA, comp, -, fA, fC, hO, -, X', step⟩ := Xs.multianewarray2F hexec hown hclink (va_AOA.use hover) harr (g := F0 m pc ls (.int k :: .int n :: rest)) rfl (by rw [hb]; exact hdg) rfl hn hk hb1 hb2 hb3 hdf hdd hcells hslots
  have ec : some cy = some comp := hcy.symm.trans fC
  cases ec
  generalize hF : Jvm.Free.Multi.fill (T.setVm vm₁) cA cy n.toNatClampNeg k.toNatClampNeg (defaultValue ty) n.toNatClampNeg = F at X' step
  have hTh : (T.setVm vm₁).heap = H := hT
  obtain ⟨f1, f2, -, -⟩ := Jvm.Free.Multi.fill_facts (T.setVm vm₁) cA cy n.toNatClampNeg k.toNatClampNeg (defaultValue ty) n.toNatClampNeg
  rw [hF, hTh] at f1 f2
  have hold : ∀ x : Nat, x < H.size → F.heap[x]? = H[x]? := fun x hx => by
    have := Jvm.Free.Multi.fill_old (T.setVm vm₁) cA cy n.toNatClampNeg k.toNatClampNeg (defaultValue ty) (a := x) (by rw [hTh]; exact hx) n.toNatClampNeg
    rw [hF, hTh] at this
    exact this
  have hrow : ∀ j : Nat, j < n.toNatClampNeg → F.heap[H.size + 1 + j]? = some (vp_cell cy z) := fun j hj => by
    have := Jvm.Free.Multi.fill_inner (T.setVm vm₁) cA cy n.toNatClampNeg k.toNatClampNeg (defaultValue ty) n.toNatClampNeg j hj
    rw [hF, hTh, hz] at this
    exact this
  have hout : Jvm.Free.Multi.outerC cA n.toNatClampNeg H.size n.toNatClampNeg = vp_cell cA (n.toNatClampNeg, .inr (.inr (.inr (.inr (fun i => if i < n.toNatClampNeg then some (H.size + 1 + i) else none))))) := by
    rw [vp_cell_q]
    exact vr_outer cA n.toNatClampNeg H.size n.toNatClampNeg
  rw [hout] at f2
  have hlt : ∀ a, a ∈ L → a < H.size := fun a ha => by
    obtain ⟨k9, hk9⟩ := va_pl_get (X := X) (f := f) ha
    exact (hP k9 _ hk9).lt
  have hnl : ∀ i : Nat, i < n.toNatClampNeg → H.size + 1 + i ∉ L := fun i _ h => by
    have := hlt _ h
    omega
  have hnm : ∀ a, a ∈ (List.range n.toNatClampNeg).map (fun i => H.size + 1 + i) → a ∉ L := fun a ha h => by
    obtain ⟨i, -, rfl⟩ := List.mem_map.mp ha
    have := hlt _ h
    omega
  have hP0 : va_P D cl (X ++ va_pl L f) F.heap := hP.kept (fun k9 x hx => hold x.1 ((hP k9 x hx).lt))
  have hP1 : va_P D cl ((X ++ va_pl L f) ++ [(H.size, .inl (cA, n.toNatClampNeg, .inr (.inr (.inr (.inr (fun i => if i < n.toNatClampNeg then some (H.size + 1 + i) else none))))))]) F.heap := hP0.app (fun k9 x hx => by
    have h0 : k9 < 1 := (List.getElem?_eq_some_iff.mp hx).1
    rw [show k9 = 0 by omega] at hx
    cases hx
    exact f2)
  have hP2 : va_P D cl (((X ++ va_pl L f) ++ [(H.size, .inl (cA, n.toNatClampNeg, .inr (.inr (.inr (.inr (fun i => if i < n.toNatClampNeg then some (H.size + 1 + i) else none))))))]) ++ ((List.range n.toNatClampNeg).map (fun i => H.size + 1 + i)).map (fun a => (a, .inl (cy, z)))) F.heap := hP1.app (fun k9 x hx => by
    obtain ⟨a, ha, rfl⟩ := List.mem_map.mp (List.mem_of_getElem? hx)
    obtain ⟨i, hi, rfl⟩ := List.mem_map.mp ha
    exact hrow i (List.mem_range.mp hi))
  have hD2 : va_D A (((X ++ va_pl L f) ++ [(H.size, .inl (cA, n.toNatClampNeg, .inr (.inr (.inr (.inr (fun i => if i < n.toNatClampNeg then some (H.size + 1 + i) else none))))))]) ++ ((List.range n.toNatClampNeg).map (fun i => H.size + 1 + i)).map (fun a => (a, .inl (cy, z)))) := by
    have hD1 := hD.push (e := .inl (cA, n.toNatClampNeg, .inr (.inr (.inr (.inr (fun i => if i < n.toNatClampNeg then some (H.size + 1 + i) else none)))))) hP rfl (hA _ hS.1)
    generalize hW1 : (X ++ va_pl L f) ++ [(H.size, .inl (cA, n.toNatClampNeg, .inr (.inr (.inr (.inr (fun i => if i < n.toNatClampNeg then some (H.size + 1 + i) else none))))))] = W1 at hD1 hP1 ⊢
    have hle : ∀ (k9 : Nat) (x : Nat × va_E), W1[k9]? = some x → x.1 ≤ H.size := fun k9 x hx => by
      rw [← hW1] at hx
      by_cases hl : k9 < (X ++ va_pl L f).length
      · rw [List.getElem?_append_left hl] at hx
        exact Nat.le_of_lt ((hP k9 x hx).lt)
      · rw [List.getElem?_append_right (by omega)] at hx
        have h0 : k9 - (X ++ va_pl L f).length < 1 := (List.getElem?_eq_some_iff.mp hx).1
        rw [show k9 - (X ++ va_pl L f).length = 0 by omega] at hx
        cases hx
        exact Nat.le_refl _
    have hr : ∀ (k9 : Nat) (x : Nat × va_E), (((List.range n.toNatClampNeg).map (fun i => H.size + 1 + i)).map (fun a => ((a, .inl (cy, z)) : Nat × va_E)))[k9]? = some x → x.1 = H.size + 1 + k9 := fun k9 x hx => by
      rw [List.getElem?_map, List.getElem?_map] at hx
      by_cases h9 : k9 < n.toNatClampNeg
      · rw [List.getElem?_range h9] at hx
        cases hx
        rfl
      · have hn0 : (List.range n.toNatClampNeg)[k9]? = none := List.getElem?_eq_none (by rw [List.length_range]; omega)
        rw [hn0] at hx
        cases hx
    refine ⟨fun i j x y hi hj hxy => ?_, fun k9 x hx => ?_⟩
    · by_cases h1 : i < W1.length <;> by_cases h2 : j < W1.length
      · rw [List.getElem?_append_left h1] at hi
        rw [List.getElem?_append_left h2] at hj
        exact hD1.1 i j x y hi hj hxy
      · rw [List.getElem?_append_left h1] at hi
        rw [List.getElem?_append_right (by omega)] at hj
        have := hle _ _ hi
        have := hr _ _ hj
        omega
      · rw [List.getElem?_append_right (by omega)] at hi
        rw [List.getElem?_append_left h2] at hj
        have := hle _ _ hj
        have := hr _ _ hi
        omega
      · rw [List.getElem?_append_right (by omega)] at hi hj
        have := hr _ _ hi
        have := hr _ _ hj
        omega
    · by_cases h1 : k9 < W1.length
      · rw [List.getElem?_append_left h1] at hx
        exact hD1.2 k9 x hx
      · rw [List.getElem?_append_right (by omega)] at hx
        have := hr _ _ hx
        exact hA _ (by have := hS.1; omega)
  have hAr : ArrOfT s cA (.array ty) := fun N9 z9 => by
    obtain ⟨-, k9, hk9, cm9, hkk9⟩ := (hO 0 0 0).1
    exact ⟨(fun q hq => by cases hq), k9, hk9, cm9, hkk9⟩
  have hK2 : va_K D cl (tys ++ [(cA, .array ty)]) s := ⟨hK.1, fun k9 x hx => by
    by_cases hl : k9 < tys.length
    · rw [List.getElem?_append_left hl] at hx
      exact hK.2 k9 x hx
    · rw [List.getElem?_append_right (by omega)] at hx
      have h0 : k9 - tys.length < 1 := (List.getElem?_eq_some_iff.mp hx).1
      rw [show k9 - tys.length = 0 by omega] at hx
      cases hx
      exact ⟨hAr, fA⟩⟩
  obtain ⟨t, a1, b1⟩ := kk H.size (fun i => H.size + 1 + i) cA F.heap (fun i j _ _ h => by have h9 : H.size + 1 + i = H.size + 1 + j := h; omega) hnl hK2 (by rw [← vr_rows hnm]; exact vr_lay hP2) (by rw [← vr_rows hnm]; exact vr_layD hD2) ⟨by rw [f1]; have := hS.1; omega, fun x h1 h2 => (hold x (Nat.lt_of_lt_of_le h1 hS.1)).trans (hS.2.1 x h1 h2), hS.2.2⟩ F rfl X'
  refine ⟨t, step t ?_, b1⟩
  have e : T.heap.size = H.size := by rw [hT]
  rw [e]
  exact a1
end VGM
/-! ===== END ===== -/

/-! ===== BEGIN exceptions that leave a method, and their catching by the caller (launches without stack traces) ===== -/
section VXA
/-! The laws vx_back, vx_callV, vx_callS, vx_callSW, vx_throw0, vx_throwS follow proofs of the library, with one case more: JvmDerived/Free/Laws.lean (Back.of_free), Shelf42/LK1.lean (callV, callS), Shelf/KitTraced.lean (throwNew0V, throwNewS). -/
/-- where a method has thrown q: the class by its name, the cell, what was written, the world -/
def vx_T (XC : String → State → State → Prop) (st : State) (q : Addr) (t : State) (mc ms : Nat) (free : Addr → Prop) : Prop :=
  ∃ (E : String) (ce : Cell) (L : List Loc), XC E st t ∧ t.heap[q]? = some ce ∧ ce.vm = .none ∧ st.vm.findClass E = some ce.cls ∧ st.WarmedH t.vm ∧ st.sameButNew ({ t with vm := st.vm } : State) L mc ms ∧ ∀ z ∈ L, free z.base
def vx_Q (Qc : Array Value → State → Outcome → State → Prop) (XC : String → State → State → Prop) (mc ms : Nat) (free : Addr → Prop) : Array Value → State → Outcome → State → Prop := fun a st o t =>
  (Qc a st o t ∧ ∃ L, FrameEnd st o t L mc ms ∧ ∀ q ∈ L, free q.base) ∨ ∃ q, o = .threw q ∧ vx_T XC st q t mc ms free
/-- a callee that returns or throws -/
def vx_Met (l : Launch) (y : MethodName) (ws : List Cond) (rm : Room) (Pc : Array Value → State → Prop) (Qc : Array Value → State → Outcome → State → Prop) (XC : String → State → State → Prop) (mc ms : Nat) (free : Addr → Prop) : Prop :=
  MetFree l y (headSpec ws rm) Pc (fun _ _ _ _ _ => True) (vx_Q Qc XC mc ms free)
def vx_Post (XC : String → State → State → Prop) (mc ms : Nat) (free : Addr → Prop) : Pt → Array Value → Addr → Pt → Prop := fun A a q B =>
  ∃ (g : JFrame) (mk : MethodId) (t : State) (L : List Loc) (E : String) (ce : Cell), B.U.heap = t.heap ∧ B.U.vm = t.vm ∧ XC E (A.U.calling g mk a) t ∧ t.heap[q]? = some ce ∧ ce.vm = .none ∧ A.U.vm.findClass E = some ce.cls ∧ B.locs = A.locs ++ L ∧ (∀ z ∈ L, free z.base) ∧ B.cells = A.cells + mc ∧ B.slots = A.slots + ms
def vx_Back (l : Launch) (R : Room) (p : Program) (e : Env) (below : List Frame) (s : State) (sargs : Array Value) (y : MethodName) (len W9 : Nat)
    (Pre : Pt → Array Value → Prop) (Post : Pt → Array Value → Option Value → Pt → Prop) (PostX : Pt → Array Value → Addr → Pt → Prop) : Prop :=
  ∀ (m : MethodId) (meth : Method) (c : Code) (A : Pt) (g : JFrame) (ig : Instr) (mk : MethodId) (a : Array Value),
    Stand p l e R s m sargs below meth c A.U A.locs A.cells A.slots → g.method = m → g.locals.size = c.maxLocals → decode c.code g.pc = .ok (ig, len) →
    2 * g.monitorRoom + (g.stack.map fun v => v.category).sum ≤ W9 → A.U.methodNamed? y = some mk → Pre A a →
    (∃ (v : Option Value) (B : Pt), Stand p l e R s m sargs below meth c B.U B.locs B.cells B.slots ∧ Post A a v B ∧
      Steps p.tables e below (doInvoke e (A.U.setTop g) [] mk a).1 (B.U.setTop { g with pc := g.pc + len, stack := v.toList ++ g.stack })) ∨
    (∃ (q : Addr) (B : Pt), Stand p l e R s m sargs below meth c B.U B.locs B.cells B.slots ∧ PostX A a q B ∧
      Steps p.tables e below (doInvoke e (A.U.setTop g) [] mk a).1 ((B.U.setTop g).pushFrame (.throwing q)))
section Payer
variable {l : Launch} {R : Room} {p : Program} {e : Env} {below : List Frame} {s : State} {sargs : Array Value} {y : MethodName} {len W9 : Nat}
theorem vx_back {ws : List Cond} {rm : Room} {Pc : Array Value → State → Prop} {Qc : Array Value → State → Outcome → State → Prop} {XC : String → State → State → Prop} {mc ms : Nat} {free : Addr → Prop} {bytes : ByteArray} {maxL : Nat} {ret : Option FieldType}
    (hM : vx_Met l y ws rm Pc Qc XC mc ms free) (hblind : FrameBlind Pc) (hrc : rm.cells = mc) (hrs : rm.slots = ms)
    (hframes : rm.frames + 1 ≤ R.frames) (hlocals : W9 + (maxL + 11) + rm.locals ≤ R.locals)
    (hws : ∀ w ∈ ws, ∀ a' U, s.WarmedH U.vm → w.before a' U = true) (hcode : Cond.code y bytes maxL ret ∈ ws) (hinit : ∀ a' U, s.WarmedH U.vm → (Cond.initialized y.cls).before a' U = true) :
    vx_Back l R p e below s sargs y len W9 (PreOf R mc ms Pc) (PostOf Qc mc ms free) (vx_Post XC mc ms free) := by
  intro m meth c A g ig mk a X hg hsize hdg hW hn hp
  have h1 : (headSpec ws rm).pre.before a A.U = true := atoms_intro fun w hw => hws w hw _ _ X.warmed
  have h2 : (Cond.code y bytes maxL ret).before a A.U = true := hws _ hcode _ _ X.warmed
  have h3 : (Cond.initialized y.cls).before a A.U = true := hinit _ _ X.warmed
  have h4 : A.cells + (headSpec ws rm).room.cells ≤ R.cells := by rw [show (headSpec ws rm).room.cells = mc from hrc]; exact hp.1
  have h5 : A.slots + (headSpec ws rm).room.slots ≤ R.slots := by rw [show (headSpec ws rm).room.slots = ms from hrs]; exact hp.2.1
  have hPc : Pc a (A.U.calling g mk a) := hblind _ _ _ _ hp.2.2
  obtain ⟨U, Ls, c0, s0⟩ := A
  dsimp only [Pt.U, Pt.locs, Pt.cells, Pt.slots] at h1 h2 h3 h4 h5 X hn hPc ⊢
  obtain ⟨methY, cY, hmY, hcY, -, hlY, -, -, -, -⟩ := Cond.code_spec hn h2
  obtain ⟨kY, hkY, -⟩ := className_of_methodNamed hn
  have hinitY : kY.init = .initialized := Cond.initialized_spec (findClass_of_methodNamed hn) hkY h3
  have h : At U g.method c below := by rw [hg]; exact X.here
  have hlocals9 : W9 + (maxL + 11) + (headSpec ws rm).room.locals ≤ R.locals := hlocals
  have happ : (headSpec ws rm).appliesLoose y e.platform (U.calling g mk a) = true :=
    Spec.appliesLoose_calling (g := g) h hdg hn hkY hinitY
      (X.room_calling (g := g) (R' := (headSpec ws rm).room) hsize hmY hcY hframes (by rw [hlY]; omega) h4 h5) h1
  obtain ⟨mid, hmid⟩ := h.above
  have hfr : (U.setTop g).frames = (.java g :: mid) ++ below := by rw [State.frames_setTop' g h.top, hmid]; rfl
  obtain ⟨o, s₂, hsteps, -, hend, hq⟩ := Steps.callFree hM p X.admits X.cas X.clock (acts := []) hfr happ hPc trivial
  have hq' : vx_Q Qc XC mc ms free a (U.calling g mk a) o s₂ := hq
  rw [State.frames_setTop' g h.top] at hend
  obtain ⟨g₀, hg0⟩ := Option.isSome_iff_exists.mp h.top
  obtain ⟨r, hr⟩ := State.topJava?_eq_some.mp hg0
  have hr' : (({ U with heap := s₂.heap, slotsUsed := s₂.slotsUsed } : State).setVm s₂.vm).frames = .java g₀ :: r := hr
  rcases hq' with ⟨hqc, L, hfe, hL⟩ | ⟨q, rfl, E, ce, L, hx, hce, hcv, hcl, hW₂, hsm, hL⟩
  · obtain ⟨⟨v, rfl⟩, hW₂, e2, q2, q3, q4, q5, q6⟩ := id hfe
    have e3 : s₂ = ({ (U.calling g mk a).setFrames s₂.frames with heap := s₂.heap, slotsUsed := s₂.slotsUsed } : State).setVm s₂.vm := by
      have : s₂ = ({ s₂ with vm := (U.calling g mk a).vm } : State).setVm s₂.vm := rfl
      rw [e2] at this
      exact this
    obtain ⟨c₂, i₂, len₂, hc₂, hd₂, hf₂⟩ := hend
    have hW' : U.WarmedH s₂.vm := hW₂
    have hcc : c₂ = c := by
      have h1 : s₂.code? g.method = U.code? g.method := by
        rw [State.code?_eq, State.code?_eq, hW'.alike.method?]
      exact Option.some.inj (hc₂.symm.trans (h1.trans h.code))
    subst hcc
    have hlen : len₂ = len := by rw [hdg] at hd₂; cases hd₂; rfl
    subst hlen
    have hs₂ : s₂ = (({ U with heap := s₂.heap, slotsUsed := s₂.slotsUsed } : State).setVm s₂.vm).setTop { g with pc := g.pc + len₂, stack := v.toList ++ g.stack } := by
      refine e3.trans ?_
      rw [hf₂, State.calling_eq h.top, State.setFrames_setFrames, State.setTop_of_frames _ hr', hr]
      rfl
    have hsame : U.sameButNew ({ U with heap := s₂.heap, slotsUsed := s₂.slotsUsed } : State) L mc ms := by
      refine ⟨?_, q2, q3, q4, q5, q6⟩
      obtain ⟨t, ht, -⟩ := State.frames_cons hr
      show ({ U with heap := s₂.heap, slotsUsed := s₂.slotsUsed } : State) = { U.setFrames U.frames with heap := s₂.heap, slotsUsed := s₂.slotsUsed }
      rw [State.setFrames_self ht]
    subst hg
    refine Or.inl ⟨v, ⟨(({ U with heap := s₂.heap, slotsUsed := s₂.slotsUsed } : State).setVm s₂.vm), Ls ++ L, c0 + mc, s0 + ms⟩,
      ⟨X.admits, X.cas, X.clock, X.frames, X.room, X.hears, X.method, X.code, (X.here.setHeapUsed s₂.heap s₂.slotsUsed).setVm hW'.alike, X.tail, State.WarmedH.trans X.warmed hW', X.limits, X.bytes, X.same.trans (hsame.setVm s.vm)⟩,
      ⟨g, mk, s₂, L, rfl, rfl, hqc, rfl, hL, rfl, rfl⟩, ?_⟩
    show Steps p.tables e below _ ((({ U with heap := s₂.heap, slotsUsed := s₂.slotsUsed } : State).setVm s₂.vm).setTop { g with pc := g.pc + len₂, stack := v.toList ++ g.stack })
    rw [← hs₂]
    exact hsteps
  · obtain ⟨e2, q2, q3, q4, q5, q6⟩ := id hsm
    have e3 : s₂ = ({ (U.calling g mk a).setFrames s₂.frames with heap := s₂.heap, slotsUsed := s₂.slotsUsed } : State).setVm s₂.vm := by
      have : s₂ = ({ s₂ with vm := (U.calling g mk a).vm } : State).setVm s₂.vm := rfl
      rw [e2] at this
      exact this
    have hf₂ : s₂.frames = .throwing q :: .java g :: U.frames.tail := hend
    have hW' : U.WarmedH s₂.vm := hW₂
    have hs₂ : s₂ = ((({ U with heap := s₂.heap, slotsUsed := s₂.slotsUsed } : State).setVm s₂.vm).setTop g).pushFrame (.throwing q) := by
      refine e3.trans ?_
      rw [hf₂, State.calling_eq h.top, State.setFrames_setFrames, State.pushFrame, State.frames_setTop _ hr', State.setTop_of_frames _ hr', State.setFrames_setFrames, hr]
      rfl
    have hsame : U.sameButNew ({ U with heap := s₂.heap, slotsUsed := s₂.slotsUsed } : State) L mc ms := by
      refine ⟨?_, q2, q3, q4, q5, q6⟩
      obtain ⟨t, ht, -⟩ := State.frames_cons hr
      show ({ U with heap := s₂.heap, slotsUsed := s₂.slotsUsed } : State) = { U.setFrames U.frames with heap := s₂.heap, slotsUsed := s₂.slotsUsed }
      rw [State.setFrames_self ht]
    subst hg
    refine Or.inr ⟨q, ⟨(({ U with heap := s₂.heap, slotsUsed := s₂.slotsUsed } : State).setVm s₂.vm), Ls ++ L, c0 + mc, s0 + ms⟩,
      ⟨X.admits, X.cas, X.clock, X.frames, X.room, X.hears, X.method, X.code, (X.here.setHeapUsed s₂.heap s₂.slotsUsed).setVm hW'.alike, X.tail, State.WarmedH.trans X.warmed hW', X.limits, X.bytes, X.same.trans (hsame.setVm s.vm)⟩,
      ⟨g, mk, s₂, L, E, ce, rfl, rfl, hx, hce, hcv, hcl, rfl, hL, rfl, rfl⟩, ?_⟩
    show Steps p.tables e below _ (((({ U with heap := s₂.heap, slotsUsed := s₂.slotsUsed } : State).setVm s₂.vm).setTop g).pushFrame (.throwing q))
    rw [← hs₂]
    exact hsteps
end Payer
section Calls
variable {p : Program} {l : Launch} {e : Env} {R : Room} {s : State} {m : MethodId} {args : Array Value} {below : List Frame} {meth : Method} {c : Code} {T : State} {locs : List Loc} {cells slots : Nat}
theorem vx_callV (X : Stand p l e R s m args below meth c T locs cells slots) (hexec : p.tables.exec = Jvm.exec) {own C : String} {index : Nat} {y : MethodName} {bytes : ByteArray} {maxL : Nat} {ret : Option FieldType}
    (hown : s.vm.findClass own = some m.cls) (hlink : (Cond.methodLink own index y).before args s = true) (hinst : (Cond.instanceMethod y).before args s = true) (hsel : (Cond.selects C y y).before args s = true)
    (hcode : (Cond.code y bytes maxL ret).before args s = true) (hy : y.cls ≠ "java/lang/invoke/MethodHandle" ∧ y.cls ≠ "java/lang/invoke/VarHandle")
    {W9 : Nat} {Pre : Pt → Array Value → Prop} {Post : Pt → Array Value → Option Value → Pt → Prop} {PostX : Pt → Array Value → Addr → Pt → Prop} (hK : vx_Back l R p e below s args y 3 W9 Pre Post PostX)
    {b : Addr} {cellB : Cell} (hcell : T.heap[b]? = some cellB) (hobj : cellB.vm.isStatics = false) (hcls : s.vm.findClass C = some cellB.cls)
    {g : JFrame} (hg : g.method = m) (hsize : g.locals.size = c.maxLocals) {argsL rest : List Value} (hlen : ∀ sig, parseMethodDescriptor y.desc = some sig → argsL.length = sig.parameters.length)
    (hstack : g.stack = argsL.reverse ++ .ref b :: rest) (hW : 2 * g.monitorRoom + (rest.map fun v => v.category).sum ≤ W9) (hdg : decode c.code g.pc = .ok (.invokevirtual index, 3))
    (hpre : ∀ vm₁, s.WarmedH vm₁ → Pre ⟨T.setVm vm₁, locs, cells, slots⟩ (Value.ref b :: argsL).toArray) :
    (∃ (v : Option Value) (vm₁ : Vm) (B : Pt), s.WarmedH vm₁ ∧ Stand p l e R s m args below meth c B.U B.locs B.cells B.slots ∧ Post ⟨T.setVm vm₁, locs, cells, slots⟩ (Value.ref b :: argsL).toArray v B ∧
      ∀ target, Steps p.tables e below (B.U.setTop { g with pc := g.pc + 3, stack := v.toList ++ rest }) target → Steps p.tables e below (T.setTop g) target) ∨
    (∃ (q : Addr) (vm₁ : Vm) (B : Pt), s.WarmedH vm₁ ∧ Stand p l e R s m args below meth c B.U B.locs B.cells B.slots ∧ PostX ⟨T.setVm vm₁, locs, cells, slots⟩ (Value.ref b :: argsL).toArray q B ∧
      Steps p.tables e below (T.setTop g) ((B.U.setTop { g with stack := rest }).pushFrame (.throwing q))) := by
  obtain ⟨mk, methM, hnamed, hmethM, hstM, habM⟩ := Cond.instanceMethod_spec hinst
  obtain ⟨methM', cM, hmethM', -, -, -, -, -, -, hsigM⟩ := Cond.code_spec hnamed hcode
  cases hmethM.symm.trans hmethM'
  obtain ⟨c2, r2, m2, q1, q2, q3, q4, kP, hkP, hkPi⟩ := Cond.selects_spec hsel
  cases hcls.symm.trans q1
  cases (State.methodFound?_of_named hnamed hy).symm.trans q2
  cases hnamed.symm.trans q3
  have hselP : selectMethod e.platform s.vm cellB.cls mk = .method mk := by rw [Launch.admits_selectMethod X.admits]; exact q4
  obtain ⟨vm₁, X₁, hstep₁⟩ := X.invokevirtual hexec hown hlink hnamed hmethM hstM hkP hkPi hy (a := b) (cell := cellB) hcell
    (fun z h => by rw [h] at hobj; cases hobj) hselP hmethM habM hkP hkPi (g := g) hg (argsL := argsL) (rest := rest) (hlen _ hsigM) hstack hdg
  rcases hK m meth c ⟨T.setVm vm₁, locs, cells, slots⟩ { g with stack := rest } (.invokevirtual index) mk (Value.ref b :: argsL).toArray X₁ hg hsize hdg hW (X₁.named hnamed) (hpre vm₁ X₁.warmed) with ⟨v, B, X', hpost, hsteps⟩ | ⟨q, B, X', hpost, hsteps⟩
  · exact Or.inl ⟨v, vm₁, B, X₁.warmed, X', hpost, fun target h => hstep₁ _ fun acts => by rw [doInvoke_state]; exact hsteps.trans h⟩
  · exact Or.inr ⟨q, vm₁, B, X₁.warmed, X', hpost, hstep₁ _ fun acts => by rw [doInvoke_state]; exact hsteps⟩
theorem vx_callS (X : Stand p l e R s m args below meth c T locs cells slots) (hexec : p.tables.exec = Jvm.exec) {own : String} {index : Nat} {y : MethodName} {bytes : ByteArray} {maxL : Nat} {ret : Option FieldType}
    (hown : s.vm.findClass own = some m.cls) (hlink : (Cond.methodLink own index y).before args s = true) (hstat : (Cond.static y).before args s = true) (hinit : (Cond.initialized y.cls).before args s = true)
    (hcode : (Cond.code y bytes maxL ret).before args s = true) (hy : y.cls ≠ "java/lang/invoke/MethodHandle" ∧ y.cls ≠ "java/lang/invoke/VarHandle")
    {W9 : Nat} {Pre : Pt → Array Value → Prop} {Post : Pt → Array Value → Option Value → Pt → Prop} {PostX : Pt → Array Value → Addr → Pt → Prop} (hK : vx_Back l R p e below s args y 3 W9 Pre Post PostX)
    {g : JFrame} (hg : g.method = m) (hsize : g.locals.size = c.maxLocals) {argsL rest : List Value} (hlen : ∀ sig, parseMethodDescriptor y.desc = some sig → argsL.length = sig.parameters.length)
    (hstack : g.stack = argsL.reverse ++ rest) (hW : 2 * g.monitorRoom + (rest.map fun v => v.category).sum ≤ W9) (hdg : decode c.code g.pc = .ok (.invokestatic index, 3))
    (hpre : ∀ vm₁, s.WarmedH vm₁ → Pre ⟨T.setVm vm₁, locs, cells, slots⟩ argsL.toArray) :
    (∃ (v : Option Value) (vm₁ : Vm) (B : Pt), s.WarmedH vm₁ ∧ Stand p l e R s m args below meth c B.U B.locs B.cells B.slots ∧ Post ⟨T.setVm vm₁, locs, cells, slots⟩ argsL.toArray v B ∧
      ∀ target, Steps p.tables e below (B.U.setTop { g with pc := g.pc + 3, stack := v.toList ++ rest }) target → Steps p.tables e below (T.setTop g) target) ∨
    (∃ (q : Addr) (vm₁ : Vm) (B : Pt), s.WarmedH vm₁ ∧ Stand p l e R s m args below meth c B.U B.locs B.cells B.slots ∧ PostX ⟨T.setVm vm₁, locs, cells, slots⟩ argsL.toArray q B ∧
      Steps p.tables e below (T.setTop g) ((B.U.setTop { g with stack := rest }).pushFrame (.throwing q))) := by
  obtain ⟨mk, hnamed⟩ := Cond.code_named hcode
  obtain ⟨methM, cM, hmethM, -, -, -, -, -, -, hsigM⟩ := Cond.code_spec hnamed hcode
  have hstatic : methM.isStatic = true := Cond.static_spec hnamed hmethM hstat
  obtain ⟨kP, hkP, -⟩ := className_of_methodNamed hnamed
  have hinitP : kP.init = .initialized := Cond.initialized_spec (findClass_of_methodNamed hnamed) hkP hinit
  obtain ⟨vm₁, X₁, hstep₁⟩ := X.invokestatic hexec hown hlink hnamed hmethM hstatic hkP hinitP hy (g := g) hg (argsL := argsL) (rest := rest) (hlen _ hsigM) hstack hdg
  rcases hK m meth c ⟨T.setVm vm₁, locs, cells, slots⟩ { g with stack := rest } (.invokestatic index) mk argsL.toArray X₁ hg hsize hdg hW (X₁.named hnamed) (hpre vm₁ X₁.warmed) with ⟨v, B, X', hpost, hsteps⟩ | ⟨q, B, X', hpost, hsteps⟩
  · exact Or.inl ⟨v, vm₁, B, X₁.warmed, X', hpost, fun target h => hstep₁ _ fun acts => by rw [doInvoke_state]; exact hsteps.trans h⟩
  · exact Or.inr ⟨q, vm₁, B, X₁.warmed, X', hpost, hstep₁ _ fun acts => by rw [doInvoke_state]; exact hsteps⟩
end Calls
theorem vx_cls {s : State} {T : State} {vm₁ : Vm} {E : String} {k : ClassId} (hW : s.WarmedH vm₁) (h : (T.setVm vm₁).vm.findClass E = some k) : s.vm.findClass E = some k := by
  have h1 : vm₁.findClass E = some k := h
  rw [hW.alike.findClass] at h1
  exact h1
/-- the method's frame g, with q thrown over it -/
def vx_W (p : Program) (l : Launch) (e : Env) (R : Room) (s : State) (m : MethodId) (args : Array Value) (below : List Frame) (meth : Method) (c : Code) (H : Heap) (locs : List Loc) (cells slots : Nat) (Q : State → Prop) (g : JFrame) (q : Addr) : Prop :=
  ∀ T : State, T.heap = H → Stand p l e R s m args below meth c T locs cells slots → ∃ t, Steps p.tables e below ((T.setTop g).pushFrame (.throwing q)) t ∧ Q t
def vx_Run (p : Program) (l : Launch) (e : Env) (R : Room) (s : State) (m : MethodId) (args : Array Value) (below : List Frame) (meth : Method) (c : Code) (H : Heap) (locs : List Loc) (cells slots mc ms : Nat) (g : JFrame) (rest : List Value) (Qa : State → Outcome → State → Prop) (XC : String → State → State → Prop) (free : Addr → Prop) : Prop :=
  ∀ T : State, T.heap = H → Stand p l e R s m args below meth c T locs cells slots →
    (∃ (v : Option Value) (st₀ t T' : State) (L : List Loc), st₀.heap = H ∧ Stand p l e R s m args below meth c T' (locs ++ L) (cells + mc) (slots + ms) ∧ (∀ q ∈ L, free q.base) ∧ T'.heap = t.heap ∧ T'.vm = t.vm ∧ Qa st₀ (.returned v) t ∧
      Goes p e below T g T' { g with pc := g.pc + 3, stack := v.toList ++ rest }) ∨
    (∃ (q : Addr) (st₀ t T' : State) (L : List Loc) (E : String) (ce : Cell), st₀.heap = H ∧ Stand p l e R s m args below meth c T' (locs ++ L) (cells + mc) (slots + ms) ∧ (∀ z ∈ L, free z.base) ∧ T'.heap = t.heap ∧ T'.vm = t.vm ∧ XC E st₀ t ∧ t.heap[q]? = some ce ∧ ce.vm = .none ∧ s.vm.findClass E = some ce.cls ∧
      Steps p.tables e below (T.setTop g) ((T'.setTop { g with stack := rest }).pushFrame (.throwing q)))
def vx_X {S : Type} (px : S → Prop) (B : String → S → State → Prop) (A : Nat → Prop) : String → State → State → Prop := fun E st t => ∃ u : S, px u ∧ B E u t ∧ va_F A st t
section Runs
variable {p : Program} {l : Launch} {e : Env} {R : Room} {s : State} {m : MethodId} {args : Array Value} {below : List Frame} {meth : Method} {c : Code} {H : Heap} {locs : List Loc} {cells slots : Nat}
variable {y : MethodName} {bytes cc : ByteArray} {maxL nL mc ms n index : Nat} {ret : Option FieldType} {ws : List Cond} {rm : Room} {Pc : Array Value → State → Prop} {Qc : Array Value → State → Outcome → State → Prop} {XC : String → State → State → Prop} {free : Addr → Prop} {Ts : List Cond} {own C : String} {b : Addr} {As rest : List Value} {g : JFrame}
theorem vx_callBack (cb : CallB R s args own index y bytes maxL ret ws rm mc ms n) (hM : vx_Met l y ws rm Pc Qc XC mc ms free) (hbl : FrameBlind Pc) : vx_Back l R p e below s args y 3 8 (PreOf R mc ms Pc) (PostOf Qc mc ms free) (vx_Post XC mc ms free) := by
  obtain ⟨hrc, hrs, hfr, hlo, hws, hcw, -, hini, -⟩ := cb
  exact vx_back (bytes := bytes) (maxL := maxL) (ret := ret) hM hbl hrc hrs hfr hlo hws hcw (fun a' U hW => word_at hW (Or.inl (by first | rfl | simp [Cond.onTables, Cond.keeps, Cond.steady])) hini)
theorem vx_runV (S : CallFix p m c cc nL s args Ts own) (hM : vx_Met l y ws rm Pc Qc XC mc ms free) (cw : CallW R s args own C index y bytes maxL ret ws rm mc ms n) (hp : PreV s H C b Pc As)
    (hg : g.method = m) (hn : As.length = n) (hsize : g.locals.size = nL) (hstack : g.stack = As.reverse ++ .ref b :: rest) (hW : 2 * g.monitorRoom + (rest.map fun v => v.category).sum ≤ 8) (hdg : decode cc g.pc = .ok (.invokevirtual index, 3)) (hf : cells + mc ≤ R.cells ∧ slots + ms ≤ R.slots) :
    vx_Run p l e R s m args below meth c H locs cells slots mc ms g rest (Qc (Value.ref b :: As).toArray) XC free := by
  have hK : vx_Back l R p e below s args y 3 8 (PreOf R mc ms Pc) (PostOf Qc mc ms free) (vx_Post XC mc ms free) := vx_callBack cw.1 hM hp.1
  obtain ⟨⟨-, -, -, -, -, -, hcode, -, hy, hlen, hl⟩, hin, hse⟩ := cw
  obtain ⟨hx, hb, hml, ho, -⟩ := S
  obtain ⟨-, ⟨cellB, hcB, hoB, hclB⟩, hPc⟩ := hp
  intro T hT X
  rcases vx_callV X hx (C := C) (bytes := bytes) (maxL := maxL) (ret := ret) ho hl hin hse hcode hy hK (by rw [hT]; exact hcB) hoB hclB hg (hsize.trans hml.symm) (argsL := As) (rest := rest) (fun sig h => hn.trans (hlen sig h)) hstack hW (by rw [hb]; exact hdg)
    (fun vm₁ hW₁ => ⟨hf.1, hf.2, hPc (T.setVm vm₁) hT hW₁⟩) with ⟨v, vm₁, ⟨U', l2, c2, s2⟩, hW₁, X', ⟨g', mk, t, L, e1, e2, hq, h1, hL, h2, h3⟩, st⟩ | ⟨q, vm₁, ⟨U', l2, c2, s2⟩, hW₁, X', ⟨g', mk, t, L, E, ce, e1, e2, hq, hce, hcv, hcl, h1, hL, h2, h3⟩, st⟩
  · dsimp only [Pt.U, Pt.locs, Pt.cells, Pt.slots] at X' e1 e2 h1 h2 h3 st
    subst h1; subst h2; subst h3
    exact Or.inl ⟨v, (T.setVm vm₁).calling g' mk (Value.ref b :: As).toArray, t, U', L, hT, X', hL, e1, e2, hq, st⟩
  · dsimp only [Pt.U, Pt.locs, Pt.cells, Pt.slots] at X' e1 e2 h1 h2 h3 st hcl
    subst h1; subst h2; subst h3
    exact Or.inr ⟨q, (T.setVm vm₁).calling g' mk (Value.ref b :: As).toArray, t, U', L, E, ce, hT, X', hL, e1, e2, hq, hce, hcv, vx_cls hW₁ hcl, st⟩
theorem vx_runS (S : CallFix p m c cc nL s args Ts own) (hM : vx_Met l y ws rm Pc Qc XC mc ms free) (cw : CallB R s args own index y bytes maxL ret ws rm mc ms n ∧ (Cond.static y).before args s = true) (hp : PreS s H Pc As)
    (hg : g.method = m) (hn : As.length = n) (hsize : g.locals.size = nL) (hstack : g.stack = As.reverse ++ rest) (hW : 2 * g.monitorRoom + (rest.map fun v => v.category).sum ≤ 8) (hdg : decode cc g.pc = .ok (.invokestatic index, 3)) (hf : cells + mc ≤ R.cells ∧ slots + ms ≤ R.slots) :
    vx_Run p l e R s m args below meth c H locs cells slots mc ms g rest (Qc As.toArray) XC free := by
  have hK : vx_Back l R p e below s args y 3 8 (PreOf R mc ms Pc) (PostOf Qc mc ms free) (vx_Post XC mc ms free) := vx_callBack cw.1 hM hp.1
  obtain ⟨⟨-, -, -, -, -, -, hcode, hini, hy, hlen, hl⟩, hstt⟩ := cw
  obtain ⟨hx, hb, hml, ho, -⟩ := S
  intro T hT X
  rcases vx_callS X hx (bytes := bytes) (maxL := maxL) (ret := ret) ho hl hstt hini hcode hy hK hg (hsize.trans hml.symm) (argsL := As) (rest := rest) (fun sig h => hn.trans (hlen sig h)) hstack hW (by rw [hb]; exact hdg)
    (fun vm₁ hW₁ => ⟨hf.1, hf.2, hp.2 (T.setVm vm₁) hT hW₁⟩) with ⟨v, vm₁, ⟨U', l2, c2, s2⟩, hW₁, X', ⟨g', mk, t, L, e1, e2, hq, h1, hL, h2, h3⟩, st⟩ | ⟨q, vm₁, ⟨U', l2, c2, s2⟩, hW₁, X', ⟨g', mk, t, L, E, ce, e1, e2, hq, hce, hcv, hcl, h1, hL, h2, h3⟩, st⟩
  · dsimp only [Pt.U, Pt.locs, Pt.cells, Pt.slots] at X' e1 e2 h1 h2 h3 st
    subst h1; subst h2; subst h3
    exact Or.inl ⟨v, (T.setVm vm₁).calling g' mk As.toArray, t, U', L, hT, X', hL, e1, e2, hq, st⟩
  · dsimp only [Pt.U, Pt.locs, Pt.cells, Pt.slots] at X' e1 e2 h1 h2 h3 st hcl
    subst h1; subst h2; subst h3
    exact Or.inr ⟨q, (T.setVm vm₁).calling g' mk As.toArray, t, U', L, E, ce, hT, X', hL, e1, e2, hq, hce, hcv, vx_cls hW₁ hcl, st⟩
end Runs
section Rows
variable {p : Program} {l : Launch} {e : Env} {R : Room} {s : State} {m : MethodId} {args : Array Value} {below : List Frame} {meth : Method} {c : Code} {H : Heap} {locs : List Loc} {cells slots : Nat} {Q : State → Prop}
variable {mc ms : Nat} {free : Addr → Prop} {A0 A1 : Nat → Prop} {H0 : Heap} {a : Array Value} {pc : Nat} {ls : Array Slot} {st0 rest : List Value}
theorem vx_keep {st₀ t T' : State} {L : List Loc} (h0 : st₀.heap = H) (e1 : T'.heap = t.heap) (hS : va_S A0 H0 H locs) (hA : ∀ q, q < H.size → A1 q → A0 q) (hf : ∀ q, free q → A0 q) (hL : ∀ q ∈ L, free q.base) (hF : va_F A1 st₀ t) :
    H.size ≤ T'.heap.size ∧ (∀ q : Nat, q < H.size → ¬ A1 q → T'.heap[q]? = H[q]?) ∧ va_S A0 H0 T'.heap (locs ++ L) := by
  obtain ⟨hz, hk⟩ := hF
  rw [h0] at hz hk
  exact ⟨by rw [e1]; exact hz, fun q h1 h2 => by rw [e1]; exact hk q h1 h2,
    ⟨Nat.le_trans hS.1 (by rw [e1]; exact hz), fun q h1 h2 => by rw [e1, hk q (Nat.lt_of_lt_of_le h1 hS.1) (fun z => h2 (hA q (Nat.lt_of_lt_of_le h1 hS.1) z))]; exact hS.2.1 q h1 h2, fun q hq => by
      rcases List.mem_append.mp hq with h | h
      · exact hS.2.2 q h
      · exact hf _ (hL q h)⟩⟩
theorem vx_calli {S SX : Type} {post : Int32 → S → Prop} {px : SX → Prop} {B : S → State → Prop} {BX : String → SX → State → Prop} {AX : Nat → Prop} (hr : vx_Run p l e R s m args below meth c H locs cells slots mc ms (F0 m pc ls st0) rest (va_Qi post B A1 a) (vx_X px BX AX) free) (hS : va_S A0 H0 H locs) (hA : ∀ q, q < H.size → A1 q → A0 q) (hf : ∀ q, free q → A0 q) (hAX : ∀ q, q < H.size → AX q → A0 q)
    (kx : ∀ (E : String) (ce : Cell) (q9 : Addr) (u : SX) (t : State) (H1 : Heap) (locs1 : List Loc), t.heap = H1 → s.vm.Alike t.vm → px u → BX E u t → H.size ≤ H1.size → (∀ q : Nat, q < H.size → ¬ AX q → H1[q]? = H[q]?) → va_S A0 H0 H1 locs1 → H1[q9]? = some ce → ce.vm = .none → s.vm.findClass E = some ce.cls → vx_W p l e R s m args below meth c H1 locs1 (cells + mc) (slots + ms) Q (F0 m pc ls rest) q9)
    (kk : ∀ (r : Int32) (u : S) (t : State) (H1 : Heap) (locs1 : List Loc), t.heap = H1 → s.vm.Alike t.vm → post r u → B u t → H.size ≤ H1.size → (∀ q : Nat, q < H.size → ¬ A1 q → H1[q]? = H[q]?) → va_S A0 H0 H1 locs1 → W p l e R s m args below meth c H1 locs1 (cells + mc) (slots + ms) Q (F0 m (pc + 3) ls (.int r :: rest))) : W p l e R s m args below meth c H locs cells slots Q (F0 m pc ls st0) := by
  intro T hT X
  rcases hr T hT X with ⟨v, st₀, t, T', L, h0, X', hL, e1, e2, ⟨⟨r, u, hv, hp, hb⟩, hF⟩, st⟩ | ⟨q, st₀, t, T', L, E, ce, h0, X', hL, e1, e2, ⟨u, hp, hb, hF⟩, hce, hcv, hcl, st⟩
  · cases hv
    obtain ⟨k1, k2, k3⟩ := vx_keep h0 e1 hS hA hf hL hF
    obtain ⟨t2, a1, b1⟩ := kk r u t T'.heap (locs ++ L) e1.symm (by rw [← e2]; exact X'.warmed.alike) hp hb k1 k2 k3 T' rfl X'
    exact ⟨t2, st t2 a1, b1⟩
  · obtain ⟨k1, k2, k3⟩ := vx_keep h0 e1 hS hAX hf hL hF
    obtain ⟨t2, a1, b1⟩ := kx E ce q u t T'.heap (locs ++ L) e1.symm (by rw [← e2]; exact X'.warmed.alike) hp hb k1 k2 k3 (by rw [e1]; exact hce) hcv hcl T' rfl X'
    exact ⟨t2, st.trans a1, b1⟩
theorem vx_calll {S SX : Type} {post : Int64 → S → Prop} {px : SX → Prop} {B : S → State → Prop} {BX : String → SX → State → Prop} {AX : Nat → Prop} (hr : vx_Run p l e R s m args below meth c H locs cells slots mc ms (F0 m pc ls st0) rest (va_Ql post B A1 a) (vx_X px BX AX) free) (hS : va_S A0 H0 H locs) (hA : ∀ q, q < H.size → A1 q → A0 q) (hf : ∀ q, free q → A0 q) (hAX : ∀ q, q < H.size → AX q → A0 q)
    (kx : ∀ (E : String) (ce : Cell) (q9 : Addr) (u : SX) (t : State) (H1 : Heap) (locs1 : List Loc), t.heap = H1 → s.vm.Alike t.vm → px u → BX E u t → H.size ≤ H1.size → (∀ q : Nat, q < H.size → ¬ AX q → H1[q]? = H[q]?) → va_S A0 H0 H1 locs1 → H1[q9]? = some ce → ce.vm = .none → s.vm.findClass E = some ce.cls → vx_W p l e R s m args below meth c H1 locs1 (cells + mc) (slots + ms) Q (F0 m pc ls rest) q9)
    (kk : ∀ (r : Int64) (u : S) (t : State) (H1 : Heap) (locs1 : List Loc), t.heap = H1 → s.vm.Alike t.vm → post r u → B u t → H.size ≤ H1.size → (∀ q : Nat, q < H.size → ¬ A1 q → H1[q]? = H[q]?) → va_S A0 H0 H1 locs1 → W p l e R s m args below meth c H1 locs1 (cells + mc) (slots + ms) Q (F0 m (pc + 3) ls (.long r :: rest))) : W p l e R s m args below meth c H locs cells slots Q (F0 m pc ls st0) := by
  intro T hT X
  rcases hr T hT X with ⟨v, st₀, t, T', L, h0, X', hL, e1, e2, ⟨⟨r, u, hv, hp, hb⟩, hF⟩, st⟩ | ⟨q, st₀, t, T', L, E, ce, h0, X', hL, e1, e2, ⟨u, hp, hb, hF⟩, hce, hcv, hcl, st⟩
  · cases hv
    obtain ⟨k1, k2, k3⟩ := vx_keep h0 e1 hS hA hf hL hF
    obtain ⟨t2, a1, b1⟩ := kk r u t T'.heap (locs ++ L) e1.symm (by rw [← e2]; exact X'.warmed.alike) hp hb k1 k2 k3 T' rfl X'
    exact ⟨t2, st t2 a1, b1⟩
  · obtain ⟨k1, k2, k3⟩ := vx_keep h0 e1 hS hAX hf hL hF
    obtain ⟨t2, a1, b1⟩ := kx E ce q u t T'.heap (locs ++ L) e1.symm (by rw [← e2]; exact X'.warmed.alike) hp hb k1 k2 k3 (by rw [e1]; exact hce) hcv hcl T' rfl X'
    exact ⟨t2, st.trans a1, b1⟩
theorem vx_callf {S SX : Type} {post : UInt32 → S → Prop} {px : SX → Prop} {B : S → State → Prop} {BX : String → SX → State → Prop} {AX : Nat → Prop} (hr : vx_Run p l e R s m args below meth c H locs cells slots mc ms (F0 m pc ls st0) rest (va_Qf post B A1 a) (vx_X px BX AX) free) (hS : va_S A0 H0 H locs) (hA : ∀ q, q < H.size → A1 q → A0 q) (hf : ∀ q, free q → A0 q) (hAX : ∀ q, q < H.size → AX q → A0 q)
    (kx : ∀ (E : String) (ce : Cell) (q9 : Addr) (u : SX) (t : State) (H1 : Heap) (locs1 : List Loc), t.heap = H1 → s.vm.Alike t.vm → px u → BX E u t → H.size ≤ H1.size → (∀ q : Nat, q < H.size → ¬ AX q → H1[q]? = H[q]?) → va_S A0 H0 H1 locs1 → H1[q9]? = some ce → ce.vm = .none → s.vm.findClass E = some ce.cls → vx_W p l e R s m args below meth c H1 locs1 (cells + mc) (slots + ms) Q (F0 m pc ls rest) q9)
    (kk : ∀ (r : UInt32) (u : S) (t : State) (H1 : Heap) (locs1 : List Loc), t.heap = H1 → s.vm.Alike t.vm → post r u → B u t → H.size ≤ H1.size → (∀ q : Nat, q < H.size → ¬ A1 q → H1[q]? = H[q]?) → va_S A0 H0 H1 locs1 → W p l e R s m args below meth c H1 locs1 (cells + mc) (slots + ms) Q (F0 m (pc + 3) ls (.float r :: rest))) : W p l e R s m args below meth c H locs cells slots Q (F0 m pc ls st0) := by
  intro T hT X
  rcases hr T hT X with ⟨v, st₀, t, T', L, h0, X', hL, e1, e2, ⟨⟨r, u, hv, hp, hb⟩, hF⟩, st⟩ | ⟨q, st₀, t, T', L, E, ce, h0, X', hL, e1, e2, ⟨u, hp, hb, hF⟩, hce, hcv, hcl, st⟩
  · cases hv
    obtain ⟨k1, k2, k3⟩ := vx_keep h0 e1 hS hA hf hL hF
    obtain ⟨t2, a1, b1⟩ := kk r u t T'.heap (locs ++ L) e1.symm (by rw [← e2]; exact X'.warmed.alike) hp hb k1 k2 k3 T' rfl X'
    exact ⟨t2, st t2 a1, b1⟩
  · obtain ⟨k1, k2, k3⟩ := vx_keep h0 e1 hS hAX hf hL hF
    obtain ⟨t2, a1, b1⟩ := kx E ce q u t T'.heap (locs ++ L) e1.symm (by rw [← e2]; exact X'.warmed.alike) hp hb k1 k2 k3 (by rw [e1]; exact hce) hcv hcl T' rfl X'
    exact ⟨t2, st.trans a1, b1⟩
theorem vx_calld {S SX : Type} {post : UInt64 → S → Prop} {px : SX → Prop} {B : S → State → Prop} {BX : String → SX → State → Prop} {AX : Nat → Prop} (hr : vx_Run p l e R s m args below meth c H locs cells slots mc ms (F0 m pc ls st0) rest (va_Qd post B A1 a) (vx_X px BX AX) free) (hS : va_S A0 H0 H locs) (hA : ∀ q, q < H.size → A1 q → A0 q) (hf : ∀ q, free q → A0 q) (hAX : ∀ q, q < H.size → AX q → A0 q)
    (kx : ∀ (E : String) (ce : Cell) (q9 : Addr) (u : SX) (t : State) (H1 : Heap) (locs1 : List Loc), t.heap = H1 → s.vm.Alike t.vm → px u → BX E u t → H.size ≤ H1.size → (∀ q : Nat, q < H.size → ¬ AX q → H1[q]? = H[q]?) → va_S A0 H0 H1 locs1 → H1[q9]? = some ce → ce.vm = .none → s.vm.findClass E = some ce.cls → vx_W p l e R s m args below meth c H1 locs1 (cells + mc) (slots + ms) Q (F0 m pc ls rest) q9)
    (kk : ∀ (r : UInt64) (u : S) (t : State) (H1 : Heap) (locs1 : List Loc), t.heap = H1 → s.vm.Alike t.vm → post r u → B u t → H.size ≤ H1.size → (∀ q : Nat, q < H.size → ¬ A1 q → H1[q]? = H[q]?) → va_S A0 H0 H1 locs1 → W p l e R s m args below meth c H1 locs1 (cells + mc) (slots + ms) Q (F0 m (pc + 3) ls (.double r :: rest))) : W p l e R s m args below meth c H locs cells slots Q (F0 m pc ls st0) := by
  intro T hT X
  rcases hr T hT X with ⟨v, st₀, t, T', L, h0, X', hL, e1, e2, ⟨⟨r, u, hv, hp, hb⟩, hF⟩, st⟩ | ⟨q, st₀, t, T', L, E, ce, h0, X', hL, e1, e2, ⟨u, hp, hb, hF⟩, hce, hcv, hcl, st⟩
  · cases hv
    obtain ⟨k1, k2, k3⟩ := vx_keep h0 e1 hS hA hf hL hF
    obtain ⟨t2, a1, b1⟩ := kk r u t T'.heap (locs ++ L) e1.symm (by rw [← e2]; exact X'.warmed.alike) hp hb k1 k2 k3 T' rfl X'
    exact ⟨t2, st t2 a1, b1⟩
  · obtain ⟨k1, k2, k3⟩ := vx_keep h0 e1 hS hAX hf hL hF
    obtain ⟨t2, a1, b1⟩ := kx E ce q u t T'.heap (locs ++ L) e1.symm (by rw [← e2]; exact X'.warmed.alike) hp hb k1 k2 k3 (by rw [e1]; exact hce) hcv hcl T' rfl X'
    exact ⟨t2, st.trans a1, b1⟩
theorem vx_callv {S SX : Type} {post : S → Prop} {px : SX → Prop} {B : S → State → Prop} {BX : String → SX → State → Prop} {AX : Nat → Prop} (hr : vx_Run p l e R s m args below meth c H locs cells slots mc ms (F0 m pc ls st0) rest (va_Qv post B A1 a) (vx_X px BX AX) free) (hS : va_S A0 H0 H locs) (hA : ∀ q, q < H.size → A1 q → A0 q) (hf : ∀ q, free q → A0 q) (hAX : ∀ q, q < H.size → AX q → A0 q)
    (kx : ∀ (E : String) (ce : Cell) (q9 : Addr) (u : SX) (t : State) (H1 : Heap) (locs1 : List Loc), t.heap = H1 → s.vm.Alike t.vm → px u → BX E u t → H.size ≤ H1.size → (∀ q : Nat, q < H.size → ¬ AX q → H1[q]? = H[q]?) → va_S A0 H0 H1 locs1 → H1[q9]? = some ce → ce.vm = .none → s.vm.findClass E = some ce.cls → vx_W p l e R s m args below meth c H1 locs1 (cells + mc) (slots + ms) Q (F0 m pc ls rest) q9)
    (kk : ∀ (u : S) (t : State) (H1 : Heap) (locs1 : List Loc), t.heap = H1 → s.vm.Alike t.vm → post u → B u t → H.size ≤ H1.size → (∀ q : Nat, q < H.size → ¬ A1 q → H1[q]? = H[q]?) → va_S A0 H0 H1 locs1 → W p l e R s m args below meth c H1 locs1 (cells + mc) (slots + ms) Q (F0 m (pc + 3) ls (rest))) : W p l e R s m args below meth c H locs cells slots Q (F0 m pc ls st0) := by
  intro T hT X
  rcases hr T hT X with ⟨v, st₀, t, T', L, h0, X', hL, e1, e2, ⟨⟨u, hv, hp, hb⟩, hF⟩, st⟩ | ⟨q, st₀, t, T', L, E, ce, h0, X', hL, e1, e2, ⟨u, hp, hb, hF⟩, hce, hcv, hcl, st⟩
  · cases hv
    obtain ⟨k1, k2, k3⟩ := vx_keep h0 e1 hS hA hf hL hF
    obtain ⟨t2, a1, b1⟩ := kk u t T'.heap (locs ++ L) e1.symm (by rw [← e2]; exact X'.warmed.alike) hp hb k1 k2 k3 T' rfl X'
    exact ⟨t2, st t2 a1, b1⟩
  · obtain ⟨k1, k2, k3⟩ := vx_keep h0 e1 hS hAX hf hL hF
    obtain ⟨t2, a1, b1⟩ := kx E ce q u t T'.heap (locs ++ L) e1.symm (by rw [← e2]; exact X'.warmed.alike) hp hb k1 k2 k3 (by rw [e1]; exact hce) hcv hcl T' rfl X'
    exact ⟨t2, st.trans a1, b1⟩
/-- caught by the row x of this method's table; the rows ahead don't take it -/
theorem vx_catch {own name : String} {E : String} {ce : Cell} {q : Addr} (hown : s.vm.findClass own = some m.cls) (pre : List ExceptionTableEntry) (x : ExceptionTableEntry) (suf : List ExceptionTableEntry) (hsplit : c.exceptionTable.toList = pre ++ x :: suf)
    (hpass : ∀ z ∈ pre, covers z pc = false ∨ (z.catchType ≠ 0 ∧ ∃ nm : String, (Cond.classLink own z.catchType nm).before args s = true ∧ va_Nc E nm s)) (hx : covers x pc = true) (h0 : x.catchType ≠ 0)
    (hlink : (Cond.classLink own x.catchType name).before args s = true) (hcast : (Cond.castable E name).before args s = true) (hcell : H[q]? = some ce) (hv : ce.vm = .none) (hcl : s.vm.findClass E = some ce.cls)
    (kk : W p l e R s m args below meth c H locs cells slots Q (F0 m x.handlerPc ls [.ref q])) : vx_W p l e R s m args below meth c H locs cells slots Q (F0 m pc ls rest) q := by
  intro T hT X
  have hpl : e.platform.magicAccessors = ({} : Platform).magicAccessors := by rw [X.admits.platform]
  obtain ⟨c3, c4, hc3, hc4, hasg⟩ := Cond.castable_spec hcast
  cases Option.some.inj (hc3.symm.trans hcl)
  obtain ⟨c5, hc5, hcl5⟩ := Cond.classLink_spec hown hlink e.platform hpl
  cases Option.some.inj (hc4.symm.trans hc5)
  obtain ⟨vm', X', st⟩ := X.thenCaughtThrough q (g := F0 m pc ls rest) rfl (Steps.refl _) (by rw [hT]; exact hcell) (by rw [hv]; rfl) (by obtain ⟨k9, h9, -⟩ := Vm.findClass_spec hcl; exact ⟨k9, h9⟩) pre x suf hsplit
    (fun z hz => by
      rcases hpass z hz with h | ⟨hz0, nm, hl1, hn1⟩
      · exact Or.inl h
      · obtain ⟨c6, hc6, hcl6⟩ := Cond.classLink_spec hown hl1 e.platform hpl
        obtain ⟨a8, b8, h1, h2, h3⟩ := hn1
        cases Option.some.inj (h1.symm.trans hcl)
        cases Option.some.inj (h2.symm.trans hc6)
        exact Or.inr ⟨hz0, _, hcl6, h3⟩) hx (Or.inr ⟨h0, c4, hcl5, hasg⟩)
  obtain ⟨t, a1, b1⟩ := kk (T.setVm vm') hT X'
  exact ⟨t, st.trans a1, b1⟩
end Rows
section Ends
variable {p : Program} {l : Launch} {e : Env} {R : Room} {s : State} {m : MethodId} {args : Array Value} {below : List Frame} {meth : Method} {c : Code} {H : Heap} {locs : List Loc} {cells slots : Nat} {Q : State → Prop}
variable {mc ms : Nat} {free : Addr → Prop} {A0 A1 : Nat → Prop} {H0 : Heap} {a : Array Value} {ls : Array Slot} {st0 rest : List Value}
variable {Qc : Array Value → State → Outcome → State → Prop} {XC : String → State → State → Prop}
/-- what a body that may throw owes at its end -/
def vx_MQ (below : List Frame) (Qc : Array Value → State → Outcome → State → Prop) (XC : String → State → State → Prop) (a : Array Value) (s : State) (mc ms : Nat) (free : Addr → Prop) : State → Prop := fun t =>
  ∃ o, t.status = .running ∧ Ended t below o ∧ vx_Q Qc XC mc ms free a s o t
theorem vx_ret {g : JFrame} {mc ms : Nat} (k : W p l e R s m args below meth c H locs cells slots (MQ below Qc args s mc ms free) g) : W p l e R s m args below meth c H locs cells slots (vx_MQ below Qc XC args s mc ms free) g := by
  intro T hT X
  obtain ⟨t, a1, o, b1, b2, b3, b4⟩ := k T hT X
  exact ⟨t, a1, o, b1, b2, Or.inl ⟨b3, b4⟩⟩
/-- not caught here: it goes on to the caller -/
theorem vx_widen {g : JFrame} {q : Addr} {k n : Nat} (h1 : cells ≤ k) (h2 : slots ≤ n) (kk : vx_W p l e R s m args below meth c H locs k n Q g q) : vx_W p l e R s m args below meth c H locs cells slots Q g q := fun T hT X => kk T hT (stand_widen X h1 h2)
theorem vx_out {pc : Nat} {E : String} {ce : Cell} {q : Addr} {mc ms : Nat} (hout : ∀ x ∈ c.exceptionTable.toList, covers x pc = false) (hlocks : meth.locks = false) (hcell : H[q]? = some ce) (hv : ce.vm = .none) (hcl : s.vm.findClass E = some ce.cls)
    (hx : ∀ t : State, t.heap = H → s.vm.Alike t.vm → XC E s t) (hf : ∀ z ∈ locs, free z.base) (hc : cells ≤ mc) (hs : slots ≤ ms) :
    vx_W p l e R s m args below meth c H locs cells slots (vx_MQ below Qc XC args s mc ms free) (F0 m pc ls rest) q := by
  intro T hT X
  obtain ⟨st1, hrun, hend, hW, hsm⟩ := X.leaveThrown q (g := F0 m pc ls rest) rfl rfl rfl hout hlocks
  have hcell9 : (T.setFrames (.throwing q :: below)).heap[q]? = some ce := by
    show T.heap[q]? = some ce
    rw [hT]; exact hcell
  exact ⟨_, st1, .threw q, hrun, hend, Or.inr ⟨q, rfl, E, ce, locs, hx _ hT hW.alike, hcell9, hv, hcl, hW, hsm.mono hc hs, hf⟩⟩
theorem vx_frame {U : State} {k n : Nat} (h : s.sameButNew ({ U with vm := s.vm } : State) locs k n) : s.heap.size ≤ U.heap.size ∧ ∀ q : Nat, q < s.heap.size → (∀ z ∈ locs, z.base ≠ q) → U.heap[q]? = s.heap[q]? := by
  obtain ⟨-, h2, -, -, -, h6⟩ := h
  refine ⟨h2, fun q hq hz => ?_⟩
  obtain ⟨c9, e1, e2, e3, e4⟩ := h6 q _ (Array.getElem?_eq_getElem hq)
  have hs : c9.slots = (s.heap[q]).slots := Array.ext_getElem? fun i => e4 i fun hm => hz _ hm rfl
  have h9 : c9 = s.heap[q] := by
    rw [hs] at e2
    exact e2
  have e5 : U.heap[q]? = some c9 := e1
  rw [e5, h9, Array.getElem?_eq_getElem hq]
/-- the words of a throw but the four that speak of the heap -/
def vx_no (w : Cond) : Bool := decide (w ≠ .isRef (.static Bundle.tN "UNASSIGNED_STACK" Bundle.steD)) && decide (w ≠ .isRef (.static Bundle.tN "SUPPRESSED_SENTINEL" Bundle.listD)) && decide (w ≠ .laysStatic Bundle.tN "UNASSIGNED_STACK" Bundle.steD) && decide (w ≠ .laysStatic Bundle.tN "SUPPRESSED_SENTINEL" Bundle.listD)
def vx_at0 (own : String) (ic : Nat) (X : String) (names : List String) : List Cond := (Bundle.ownAtoms0 own ic X names).filter vx_no
def vx_atS (own : String) (ic : Nat) (X : String) (names : List String) : List Cond := (Bundle.ownAtoms own ic X names).filter vx_no
/-- a word that the tables alone decide, or a good one -/
def vx_ot (w : Cond) : Bool := w.onTables || goodWord w
theorem vx_ot_at {args a' : Array Value} {s U : State} {w : Cond} (hW : s.WarmedH U.vm) (hvm : s.vm = U.vm) (hg : vx_ot w = true) (h : w.before args s = true) : w.before a' U = true := by
  simp only [vx_ot, Bool.or_eq_true] at hg
  rcases hg with hg | hg
  · exact va_tabs hg hvm h
  · exact word_at hW (good_of_word hg) h
/-- a list's words: the good ones out of the method's own list, the others by premises of their own -/
theorem vx_hat {args : Array Value} {s : State} {L B : List Cond} (h1 : ∀ w ∈ L.filter goodWord, w.before args s = true) (h2 : ∀ w ∈ L.filter (fun w => !goodWord w), w ∈ B) (h3 : ∀ w ∈ B, w.before args s = true) : ∀ w ∈ L, w.before args s = true := by
  intro w hw
  by_cases g : goodWord w = true
  · exact h1 w (List.mem_filter.mpr ⟨hw, g⟩)
  · refine h3 w (h2 w (List.mem_filter.mpr ⟨hw, ?_⟩))
    show (!goodWord w) = true
    cases hgw : goodWord w
    · rfl
    · exact absurd hgw g
theorem vx_c {args : Array Value} {s : State} {w : Cond} {B : List Cond} (h : w.before args s = true) (t : ∀ w ∈ B, w.before args s = true) : ∀ w' ∈ w :: B, w'.before args s = true := fun w' h' => (List.mem_cons.mp h').elim (fun e => by rw [e]; exact h) (t w')
theorem vx_n {args : Array Value} {s : State} : ∀ w ∈ ([] : List Cond), w.before args s = true := fun _ h => nomatch h
theorem vx_own {args : Array Value} {s : State} {L : List Cond} (h1 : ∀ w ∈ L.filter vx_no, w.before args s = true)
    (hU : (Cond.isRef (.static Bundle.tN "UNASSIGNED_STACK" Bundle.steD)).before args s = true) (hN : (Cond.isRef (.static Bundle.tN "SUPPRESSED_SENTINEL" Bundle.listD)).before args s = true)
    (lU : (Cond.laysStatic Bundle.tN "UNASSIGNED_STACK" Bundle.steD).before args s = true) (lN : (Cond.laysStatic Bundle.tN "SUPPRESSED_SENTINEL" Bundle.listD).before args s = true) : ∀ w ∈ L, w.before args s = true := by
  intro w hw
  by_cases e1 : w = .isRef (.static Bundle.tN "UNASSIGNED_STACK" Bundle.steD)
  · rw [e1]; exact hU
  · by_cases e2 : w = .isRef (.static Bundle.tN "SUPPRESSED_SENTINEL" Bundle.listD)
    · rw [e2]; exact hN
    · by_cases e3 : w = .laysStatic Bundle.tN "UNASSIGNED_STACK" Bundle.steD
      · rw [e3]; exact lU
      · by_cases e4 : w = .laysStatic Bundle.tN "SUPPRESSED_SENTINEL" Bundle.listD
        · rw [e4]; exact lN
        · exact h1 w (List.mem_filter.mpr ⟨hw, by unfold vx_no; rw [decide_eq_true e1, decide_eq_true e2, decide_eq_true e3, decide_eq_true e4]; rfl⟩)
/-- where a static field lies, its class's statics cell in H -/
def vx_L (C n d : String) (A : Nat → Prop) (U : State) (H : Heap) : Prop := ∃ (c : ClassId) (k : Class) (i : Nat) (f : Field) (a : Nat) (cell : Cell), U.vm.findClass C = some c ∧ U.fieldFound? C n d = some (c, k, i, f) ∧ f.isStatic = true ∧ k.statics = some a ∧ H[a]? = some cell ∧ cell.vm.isStatics = true ∧ cell.cls = c ∧ f.slot < cell.slots.size ∧ k.staticTypes[f.slot]? = some f.type ∧ ¬ A a
theorem vx_L.moved {C n d : String} {A : Nat → Prop} {u U : State} {H : Heap} (hvm : u.vm.Alike U.vm) (h : vx_L C n d A u H) : vx_L C n d A U H := by
  obtain ⟨c, k, i, f, a, cell, h1, h2, h3, h4, h5, h6, h7, h8, h9, h10⟩ := h
  obtain ⟨k', hi', he⟩ := State.fieldFound?_setVm hvm h2
  exact ⟨c, k', i, f, a, cell, by rw [hvm.findClass]; exact h1, hi', h3, by rw [he]; exact h4, h5, h6, h7, h8, by rw [he]; exact h9, h10⟩
theorem vx_L.kept {C n d : String} {A : Nat → Prop} {U : State} {H H1 : Heap} (h : vx_L C n d A U H) (hq : ∀ a : Nat, a < H.size → ¬ A a → H1[a]? = H[a]?) : vx_L C n d A U H1 := by
  obtain ⟨c, k, i, f, a, cell, h1, h2, h3, h4, h5, h6, h7, h8, h9, h10⟩ := h
  exact ⟨c, k, i, f, a, cell, h1, h2, h3, h4, by rw [hq a (Array.getElem?_eq_some_iff.mp h5).1 h10]; exact h5, h6, h7, h8, h9, h10⟩
theorem vx_L.narrow {C n d : String} {A B : Nat → Prop} {U : State} {H : Heap} (h : vx_L C n d A U H) (hAB : ∀ q, B q → A q) : vx_L C n d B U H := by
  obtain ⟨c, k, i, f, a, cell, h1, h2, h3, h4, h5, h6, h7, h8, h9, h10⟩ := h
  exact ⟨c, k, i, f, a, cell, h1, h2, h3, h4, h5, h6, h7, h8, h9, fun z => h10 (hAB _ z)⟩
theorem vx_L.word {C n d : String} {A : Nat → Prop} {s : State} {args : Array Value} (h : vx_L C n d A s s.heap) : (Cond.laysStatic C n d).before args s = true := by
  obtain ⟨c, k, i, f, a, cell, h1, h2, h3, h4, h5, h6, h7, h8, h9, -⟩ := h
  show (Cond.laysStatic C n d).holds args s none s [] = true
  exact Cond.laysStatic_of h1 h2 h3 h4 h5 h6 h7 h8 h9
/-- .. and what it holds: null or some reference -/
def vx_Zq (C n d : String) (A : Nat → Prop) (U : State) (H : Heap) : Prop := va_Zq C n d A U H ∧ vx_L C n d A U H
theorem vx_Zq.moved {C n d : String} {A : Nat → Prop} {u U : State} {H : Heap} (hvm : u.vm.Alike U.vm) (h : vx_Zq C n d A u H) : vx_Zq C n d A U H := ⟨va_Zq.moved hvm h.1, vx_L.moved hvm h.2⟩
theorem vx_Zq.kept {C n d : String} {A : Nat → Prop} {U : State} {H H1 : Heap} (h : vx_Zq C n d A U H) (hq : ∀ a : Nat, a < H.size → ¬ A a → H1[a]? = H[a]?) : vx_Zq C n d A U H1 := ⟨va_Zq.kept h.1 hq, vx_L.kept h.2 hq⟩
theorem vx_Zq.narrow {C n d : String} {A B : Nat → Prop} {U : State} {H : Heap} (h : vx_Zq C n d A U H) (hAB : ∀ q, B q → A q) : vx_Zq C n d B U H := ⟨va_Zq.narrow h.1 hAB, vx_L.narrow h.2 hAB⟩
theorem vx_Zqof {args : Array Value} {s : State} {C n d : String} {A : Nat → Prop} (hl : (Cond.laysStatic C n d).before args s = true) (hini : (Cond.initialized C).before args s = true) (h : (Cond.isRef (.static C n d)).before args s = true) (hA : ∀ a : Nat, a < s.heap.size → ¬ A a) : vx_Zq C n d A s s.heap := by
  refine ⟨va_Zqof hl hini h hA, ?_⟩
  obtain ⟨c, k, i, f, a, cell, h1, h2, h3, h4, h5, h6, h7, h8, h9⟩ := Cond.laysStatic_spec hl
  exact ⟨c, k, i, f, a, cell, h1, h2, h3, h4, h5, h6, h7, h8, h9, hA a (Array.getElem?_eq_some_iff.mp h5).1⟩
theorem vx_isRef {C n d : String} {v : Value} {A : Nat → Prop} {s : State} {args : Array Value} (h : va_Z C n d v A s s.heap) (hv : v.isRef = true) : (Cond.isRef (.static C n d)).before args s = true := by
  obtain ⟨cf, kf, fi, f, a, cell, h1, h2, h3, h4, h5, h6, h7, -⟩ := h
  have he : (Term.static C n d).eval args s none [] s = some v := by
    simp [Term.eval, State.fieldNamed?, h1, h2, h4, h5, h6, h7]
  simp only [Cond.before, Cond.holds, Cond.value, he]
  cases v <;> simp_all [Value.isRef]
theorem vx_isRefq {C n d : String} {A : Nat → Prop} {s : State} {args : Array Value} (h : va_Zq C n d A s s.heap) : (Cond.isRef (.static C n d)).before args s = true := by
  rcases h with h | ⟨t, h⟩
  · exact vx_isRef h rfl
  · exact vx_isRef h rfl
/-- the same frame, seen from here: as if the method were called anew in this heap -/
theorem vx_rebase {T : State} (X : Stand p l e R s m args below meth c T locs cells slots) {R' : Room} (hf : R'.frames ≤ R.frames) (hl : R'.locals ≤ R.locals) (hc : cells + R'.cells ≤ R.cells) (hs : slots + R'.slots ≤ R.slots) :
    Stand p l e R' ((T.setVm s.vm).setFrames (.invoking m args :: below)) m args below meth c T [] 0 0 := by
  have htop : (T.setVm s.vm).topJava?.isSome := X.here.top
  have hF : ((T.setVm s.vm).setFrames (.invoking m args :: below)).frames = .invoking m args :: below := State.frames_setFrames _ (State.cur_lt_of_top htop)
  obtain ⟨g₀, hg0⟩ := Option.isSome_iff_exists.mp htop
  obtain ⟨r, hr⟩ := State.topJava?_eq_some.mp hg0
  have hl9 : e.platform.stackLimits (T.setVm s.vm).me = e.platform.stackLimits s.me := X.limits
  have hb9 : (T.setVm s.vm).me.stackBytes = s.me.stackBytes := X.bytes
  refine ⟨X.admits, X.cas, X.clock, hF, ?_, X.hears, X.method, X.code, X.here, X.tail, X.warmed, ?_, ?_, ?_⟩
  · have h := X.room
    have hU : ((T.setVm s.vm).setFrames (.invoking m args :: below)).localsInUse = s.localsInUse := by
      rw [State.localsInUse_invoking hF (meth := meth) (c := c) X.method X.code, State.localsInUse_invoking X.frames X.method X.code]
    simp only [State.hasRoom, Bool.and_eq_true, decide_eq_true_eq] at h ⊢
    obtain ⟨⟨⟨⟨h1, h2, h3, h4, h5, h6⟩, h7⟩, h8⟩, h9⟩ := h
    rw [X.frames, List.length_cons] at h2 h3
    have q1 := X.heapSize
    have q2 := X.used
    simp only [hF, hU, List.length_cons, State.stackLimits_setFrames, State.stackBytes_setFrames, hl9, hb9]
    refine ⟨⟨⟨⟨by omega, by omega, by omega, by omega, by omega, h6⟩, ?_⟩, ?_⟩, X.book⟩
    · show T.heap.size + R'.cells ≤ e.platform.maxCells
      omega
    · show T.slotsUsed + R'.slots ≤ e.platform.maxSlots
      omega
  · rw [State.stackLimits_setFrames]; rfl
  · rw [State.stackBytes_setFrames]; rfl
  · refine ⟨?_, Nat.le_refl _, Nat.le_refl _, ?_, ?_, fun a c9 h9 => ⟨c9, h9, rfl, rfl, fun _ _ => rfl⟩⟩
    · obtain ⟨t, ht, -⟩ := State.frames_cons hr
      show T.setVm s.vm = { ((T.setVm s.vm).setFrames (.invoking m args :: below)).setFrames (T.setVm s.vm).frames with heap := T.heap, slotsUsed := T.slotsUsed }
      rw [State.setFrames_setFrames, State.setFrames_self ht]
      rfl
    · show T.slotsUsed = T.slotsUsed + ((T.heap.toList.drop T.heap.size).map (·.slots.size)).sum
      rw [List.drop_eq_nil_of_le (Nat.le_of_eq Array.length_toList)]
      rfl
    · show ((T.heap.toList.drop T.heap.size).map (·.slots.size)).sum ≤ 0
      rw [List.drop_eq_nil_of_le (Nat.le_of_eq Array.length_toList)]
      exact Nat.le_refl _
/-- 'throw new E()': new; dup; invokespecial; athrow -/
theorem vx_throw0 {cc : ByteArray} {pc : Nat} (hexec : p.tables.exec = Jvm.exec) (hb : c.code = cc) (hl : l.stackTraces = false) {own cls : String} {names : List String} {ik ic mc ms : Nat} {A : Nat → Prop}
    (hown : s.vm.findClass own = some m.cls) (hcls : Bundle.fit cls = true) (hnames : ∀ n ∈ names, Bundle.fit n = true)
    (hk : (Cond.classLink own ik cls).before args s = true) (hini : (Cond.initialized cls).before args s = true) (hat : ∀ w ∈ vx_at0 own ic cls names, w.before args s = true)
    (hgood : ∀ w ∈ Cond.classLink own ik cls :: Cond.initialized cls :: vx_at0 own ic cls names, vx_ot w = true)
    (hU : vx_Zq Bundle.tN "UNASSIGNED_STACK" Bundle.steD A s s.heap) (hN : vx_Zq Bundle.tN "SUPPRESSED_SENTINEL" Bundle.listD A s s.heap) (hS : va_S A s.heap H locs) (hsize : ls.size = c.maxLocals)
    (d0 : decode cc pc = .ok (.new ik, 3)) (d3 : decode cc (pc + 3) = .ok (.dup, 1)) (d4 : decode cc (pc + 4) = .ok (.invokespecial ic, 3)) (d7 : decode cc (pc + 7) = .ok (.athrow, 1))
    (hout : ∀ x ∈ c.exceptionTable.toList, covers x (pc + 7) = false)
    (hRframes : names.length + 3 < R.frames) (hRlocals : (rest.map fun v => v.category).sum + (13 * (names.length + 1) + 42) ≤ R.locals) (hRcells : cells + 1 ≤ R.cells) (hRslots : slots + 6 ≤ R.slots) (hlocks : meth.locks = false)
    (hx : ∀ t : State, s.vm.Alike t.vm → H.size ≤ t.heap.size → (∀ q : Nat, q < H.size → t.heap[q]? = H[q]?) → XC cls s t)
    (hf : ∀ z ∈ locs, free z.base) (hc : cells + 1 ≤ mc) (hs : slots + 6 ≤ ms) :
    W p l e R s m args below meth c H locs cells slots (vx_MQ below Qc XC args s mc ms free) (F0 m pc ls rest) := by
  intro T hT X
  have htr : e.platform.stackTraces = false := (show e.platform.stackTraces = l.stackTraces by rw [X.admits.platform]).trans hl
  have Y := vx_rebase X (R' := { frames := R.frames, locals := R.locals, cells := 1, slots := 6 }) (Nat.le_refl _) (Nat.le_refl _) hRcells hRslots
  obtain ⟨s', hA⟩ : ∃ z, z = (T.setVm s.vm).setFrames (.invoking m args :: below) := ⟨_, rfl⟩
  rw [← hA] at Y
  have hvm : s'.vm = s.vm := by rw [hA]; rfl
  have hhp : s'.heap = H := by rw [hA]; exact hT
  have hW0 : s.WarmedH s'.vm := by rw [hvm]; exact State.WarmedH.refl s
  have hat' : ∀ w ∈ vx_at0 own ic cls names, w.before args s' = true := fun w hw => vx_ot_at hW0 hvm.symm (hgood w (List.mem_cons_of_mem _ (List.mem_cons_of_mem _ hw))) (hat w hw)
  have hk' : (Cond.classLink own ik cls).before args s' = true := vx_ot_at hW0 hvm.symm (hgood _ List.mem_cons_self) hk
  have hini' : (Cond.initialized cls).before args s' = true := vx_ot_at hW0 hvm.symm (hgood _ (List.mem_cons_of_mem _ List.mem_cons_self)) hini
  have hU' : vx_Zq Bundle.tN "UNASSIGNED_STACK" Bundle.steD A s' s'.heap := by rw [hhp]; exact vx_Zq.moved hW0.alike (hU.kept hS.2.1)
  have hN' : vx_Zq Bundle.tN "SUPPRESSED_SENTINEL" Bundle.listD A s' s'.heap := by rw [hhp]; exact vx_Zq.moved hW0.alike (hN.kept hS.2.1)
  have h : ∀ w ∈ Bundle.ownAtoms0 own ic cls names, w.before args s' = true := vx_own hat' (vx_isRefq hU'.1) (vx_isRefq hN'.1) hU'.2.word hN'.2.word
  have hown' : s'.vm.findClass own = some m.cls := by rw [hvm]; exact hown
  have hins : (Cond.instantiable cls 6).before args s' = true := h _ (by simp [Bundle.ownAtoms0])
  obtain ⟨vm₁, cX, kX, hfX, hkX, -, -, X₁, st1⟩ := Y.newCold hexec (own := own) (C := cls) (index := ik) (n := 6) hown' hk' hins hini'
    (g := F0 m pc ls rest) rfl (by rw [hb]; exact d0) (Nat.le_refl _) (Nat.le_refl _)
  generalize hT1 : (T.setVm vm₁).pushCell { cls := cX, slots := kX.instanceTypes.map defaultValue, vm := .none } = T1 at X₁ st1
  have hcat : (Value.ref T.heap.size).category = 1 := rfl
  have hcellA : T1.heap[T.heap.size]? = some (freshCell cX kX) := by rw [← hT1]; exact State.heap_pushCell_size _ _
  have d3' : decode c.code (pc + 3) = .ok (.dup, 1) := by rw [hb]; exact d3
  obtain ⟨U, hsteps, hrun, hend, hW, hsame, ce, hce, hO⟩ := X₁.ctorThrow0 hexec htr (own := own) (cls := cls) (names := names) (ic := ic) hown' hcls hnames h (fun x hx => nomatch hx) hfX hkX hcellA (by rw [hhp, hT]; exact Nat.le_refl _)
    (g := { method := m, pc := pc + 4, locals := ls, stack := .ref T.heap.size :: .ref T.heap.size :: rest, locked := none }) rfl hsize rfl rfl (rest := rest) rfl
    (by rw [hb]; exact d4) (by rw [hb]; exact d7) hout hRframes (by simp only [List.map_cons, List.sum_cons, hcat]; omega) hlocks
  obtain ⟨f1, f2⟩ := vx_frame hsame
  rw [hhp] at f1 f2
  have hWs : s.WarmedH U.vm := State.WarmedH.trans hW0 hW
  have hcl : s.vm.findClass cls = some ce.cls := by
    have h9 := hO.cls
    rw [hvm] at h9
    exact h9
  have hall : s.sameButNew ({ U with vm := s.vm } : State) locs mc ms := by
    subst hA
    obtain ⟨e1, e2⟩ := hsame
    rw [State.setFrames_setFrames] at e1
    have h2 : (T.setVm s.vm).sameButNew ({ U with vm := s.vm } : State) [] (0 + 1) (0 + 6) := ⟨e1, e2⟩
    have h3 := X.same.trans h2
    rw [List.append_nil] at h3
    exact h3.mono hc hs
  refine ⟨U, ?_, .threw T.heap.size, hrun, hend, Or.inr ⟨T.heap.size, rfl, cls, ce, locs, hx U hWs.alike f1 (fun q hq => f2 q hq (fun z hz => nomatch hz)), hce, hO.vm, hcl, hWs, hall, hf⟩⟩
  refine st1 _ ?_
  show Steps p.tables e below (T1.setTop { method := m, pc := pc + 3, locals := ls, stack := .ref T.heap.size :: rest, locked := none }) _
  jvm_step X₁.here [X₁.here.top, hexec, d3', Value.category]
  exact hsteps
/-- 'throw new E("text")': new; dup; ldc; invokespecial; athrow -/
theorem vx_throwS {cc : ByteArray} {pc : Nat} (hexec : p.tables.exec = Jvm.exec) (hb : c.code = cc) (hl : l.stackTraces = false) {own cls text : String} {names : List String} {ik is ic mc ms sa : Nat} {A : Nat → Prop}
    (hown : s.vm.findClass own = some m.cls) (hcls : Bundle.fit cls = true) (hnames : ∀ n ∈ names, Bundle.fit n = true)
    (hk : (Cond.classLink own ik cls).before args s = true) (hini : (Cond.initialized cls).before args s = true) (hstr : vk_R own is text sa s) (hat : ∀ w ∈ vx_atS own ic cls names, w.before args s = true)
    (hgood : ∀ w ∈ Cond.classLink own ik cls :: Cond.initialized cls :: vx_atS own ic cls names, vx_ot w = true)
    (hU : vx_Zq Bundle.tN "UNASSIGNED_STACK" Bundle.steD A s s.heap) (hN : vx_Zq Bundle.tN "SUPPRESSED_SENTINEL" Bundle.listD A s s.heap) (hS : va_S A s.heap H locs) (hsize : ls.size = c.maxLocals)
    (d0 : decode cc pc = .ok (.new ik, 3)) (d3 : decode cc (pc + 3) = .ok (.dup, 1)) (d4 : decode cc (pc + 4) = .ok (.ldc is, 2)) (d6 : decode cc (pc + 6) = .ok (.invokespecial ic, 3)) (d9 : decode cc (pc + 9) = .ok (.athrow, 1))
    (hout : ∀ x ∈ c.exceptionTable.toList, covers x (pc + 9) = false)
    (hRframes : names.length + 3 < R.frames) (hRlocals : (rest.map fun v => v.category).sum + (13 * (names.length + 1) + 43) ≤ R.locals) (hRcells : cells + 1 ≤ R.cells) (hRslots : slots + 6 ≤ R.slots) (hlocks : meth.locks = false)
    (hx : ∀ t : State, s.vm.Alike t.vm → H.size ≤ t.heap.size → (∀ q : Nat, q < H.size → t.heap[q]? = H[q]?) → XC cls s t)
    (hf : ∀ z ∈ locs, free z.base) (hc : cells + 1 ≤ mc) (hs : slots + 6 ≤ ms) :
    W p l e R s m args below meth c H locs cells slots (vx_MQ below Qc XC args s mc ms free) (F0 m pc ls rest) := by
  intro T hT X
  have htr : e.platform.stackTraces = false := (show e.platform.stackTraces = l.stackTraces by rw [X.admits.platform]).trans hl
  have Y := vx_rebase X (R' := { frames := R.frames, locals := R.locals, cells := 1, slots := 6 }) (Nat.le_refl _) (Nat.le_refl _) hRcells hRslots
  obtain ⟨s', hA⟩ : ∃ z, z = (T.setVm s.vm).setFrames (.invoking m args :: below) := ⟨_, rfl⟩
  rw [← hA] at Y
  have hvm : s'.vm = s.vm := by rw [hA]; rfl
  have hhp : s'.heap = H := by rw [hA]; exact hT
  have hW0 : s.WarmedH s'.vm := by rw [hvm]; exact State.WarmedH.refl s
  have hat' : ∀ w ∈ vx_atS own ic cls names, w.before args s' = true := fun w hw => vx_ot_at hW0 hvm.symm (hgood w (List.mem_cons_of_mem _ (List.mem_cons_of_mem _ hw))) (hat w hw)
  have hk' : (Cond.classLink own ik cls).before args s' = true := vx_ot_at hW0 hvm.symm (hgood _ List.mem_cons_self) hk
  have hini' : (Cond.initialized cls).before args s' = true := vx_ot_at hW0 hvm.symm (hgood _ (List.mem_cons_of_mem _ List.mem_cons_self)) hini
  have hU' : vx_Zq Bundle.tN "UNASSIGNED_STACK" Bundle.steD A s' s'.heap := by rw [hhp]; exact vx_Zq.moved hW0.alike (hU.kept hS.2.1)
  have hN' : vx_Zq Bundle.tN "SUPPRESSED_SENTINEL" Bundle.listD A s' s'.heap := by rw [hhp]; exact vx_Zq.moved hW0.alike (hN.kept hS.2.1)
  have h : ∀ w ∈ Bundle.ownAtoms own ic cls names, w.before args s' = true := vx_own hat' (vx_isRefq hU'.1) (vx_isRefq hN'.1) hU'.2.word hN'.2.word
  have hown' : s'.vm.findClass own = some m.cls := by rw [hvm]; exact hown
  have hins : (Cond.instantiable cls 6).before args s' = true := h _ (by simp [Bundle.ownAtoms])
  obtain ⟨vm₁, cX, kX, hfX, hkX, -, -, X₁, st1⟩ := Y.newCold hexec (own := own) (C := cls) (index := ik) (n := 6) hown' hk' hins hini'
    (g := F0 m pc ls rest) rfl (by rw [hb]; exact d0) (Nat.le_refl _) (Nat.le_refl _)
  generalize hT1 : (T.setVm vm₁).pushCell { cls := cX, slots := kX.instanceTypes.map defaultValue, vm := .none } = T1 at X₁ st1
  have hcat : (Value.ref T.heap.size).category = 1 := rfl
  have hcellA : T1.heap[T.heap.size]? = some (freshCell cX kX) := by rw [← hT1]; exact State.heap_pushCell_size _ _
  have d3' : decode c.code (pc + 3) = .ok (.dup, 1) := by rw [hb]; exact d3
  have d4' : decode c.code (pc + 4) = .ok (.ldc is, 2) := by rw [hb]; exact d4
  have hstr' : vk_R own is text sa s' := vk_R.warm hW0 hstr
  obtain ⟨U, hsteps, hrun, hend, hW, hsame, ce, hce, hO⟩ := X₁.ctorThrowS hexec htr (own := own) (cls := cls) (names := names) (ic := ic) hown' hcls hnames h (fun x hx => nomatch hx) hfX hkX hcellA (by rw [hhp, hT]; exact Nat.le_refl _) (msg := .ref sa) rfl
    (g := { method := m, pc := pc + 6, locals := ls, stack := .ref sa :: .ref T.heap.size :: .ref T.heap.size :: rest, locked := none }) rfl hsize rfl rfl (rest := rest) rfl
    (by rw [hb]; exact d6) (by rw [hb]; exact d9) hout hRframes (by simp only [List.map_cons, List.sum_cons, hcat]; omega) hlocks
  obtain ⟨f1, f2⟩ := vx_frame hsame
  rw [hhp] at f1 f2
  have hWs : s.WarmedH U.vm := State.WarmedH.trans hW0 hW
  have hcl : s.vm.findClass cls = some ce.cls := by
    have h9 := hO.cls
    rw [hvm] at h9
    exact h9
  have hall : s.sameButNew ({ U with vm := s.vm } : State) locs mc ms := by
    subst hA
    obtain ⟨e1, e2⟩ := hsame
    rw [State.setFrames_setFrames] at e1
    have h2 : (T.setVm s.vm).sameButNew ({ U with vm := s.vm } : State) [] (0 + 1) (0 + 6) := ⟨e1, e2⟩
    have h3 := X.same.trans h2
    rw [List.append_nil] at h3
    exact h3.mono hc hs
  refine ⟨U, ?_, .threw T.heap.size, hrun, hend, Or.inr ⟨T.heap.size, rfl, cls, ce, locs, hx U hWs.alike f1 (fun q hq => f2 q hq (fun z hz => nomatch hz)), hce, hO.vm, hcl, hWs, hall, hf⟩⟩
  refine st1 _ ?_
  show Steps p.tables e below (T1.setTop { method := m, pc := pc + 3, locals := ls, stack := .ref T.heap.size :: rest, locked := none }) _
  jvm_step X₁.here [X₁.here.top, hexec, d3', Value.category]
  exact X₁.ldcString hexec (own := own) (text := text) (index := is) (a := sa) hown' hstr'.1 hstr'.2
    (g := { method := m, pc := pc + 4, locals := ls, stack := .ref T.heap.size :: .ref T.heap.size :: rest, locked := none }) rfl d4' _ hsteps
/-- 'throw new E("text")', the text by a wide index -/
theorem vx_throwSW {cc : ByteArray} {pc : Nat} (hexec : p.tables.exec = Jvm.exec) (hb : c.code = cc) (hl : l.stackTraces = false) {own cls text : String} {names : List String} {ik is ic mc ms sa : Nat} {A : Nat → Prop}
    (hown : s.vm.findClass own = some m.cls) (hcls : Bundle.fit cls = true) (hnames : ∀ n ∈ names, Bundle.fit n = true)
    (hk : (Cond.classLink own ik cls).before args s = true) (hini : (Cond.initialized cls).before args s = true) (hstr : vk_R own is text sa s) (hat : ∀ w ∈ vx_atS own ic cls names, w.before args s = true)
    (hgood : ∀ w ∈ Cond.classLink own ik cls :: Cond.initialized cls :: vx_atS own ic cls names, vx_ot w = true)
    (hU : vx_Zq Bundle.tN "UNASSIGNED_STACK" Bundle.steD A s s.heap) (hN : vx_Zq Bundle.tN "SUPPRESSED_SENTINEL" Bundle.listD A s s.heap) (hS : va_S A s.heap H locs) (hsize : ls.size = c.maxLocals)
    (d0 : decode cc pc = .ok (.new ik, 3)) (d3 : decode cc (pc + 3) = .ok (.dup, 1)) (d4 : decode cc (pc + 4) = .ok (.ldc_w is, 3)) (d7 : decode cc (pc + 7) = .ok (.invokespecial ic, 3)) (d10 : decode cc (pc + 10) = .ok (.athrow, 1))
    (hout : ∀ x ∈ c.exceptionTable.toList, covers x (pc + 10) = false)
    (hRframes : names.length + 3 < R.frames) (hRlocals : (rest.map fun v => v.category).sum + (13 * (names.length + 1) + 43) ≤ R.locals) (hRcells : cells + 1 ≤ R.cells) (hRslots : slots + 6 ≤ R.slots) (hlocks : meth.locks = false)
    (hx : ∀ t : State, s.vm.Alike t.vm → H.size ≤ t.heap.size → (∀ q : Nat, q < H.size → t.heap[q]? = H[q]?) → XC cls s t)
    (hf : ∀ z ∈ locs, free z.base) (hc : cells + 1 ≤ mc) (hs : slots + 6 ≤ ms) :
    W p l e R s m args below meth c H locs cells slots (vx_MQ below Qc XC args s mc ms free) (F0 m pc ls rest) := by
  intro T hT X
  have htr : e.platform.stackTraces = false := (show e.platform.stackTraces = l.stackTraces by rw [X.admits.platform]).trans hl
  have Y := vx_rebase X (R' := { frames := R.frames, locals := R.locals, cells := 1, slots := 6 }) (Nat.le_refl _) (Nat.le_refl _) hRcells hRslots
  obtain ⟨s', hA⟩ : ∃ z, z = (T.setVm s.vm).setFrames (.invoking m args :: below) := ⟨_, rfl⟩
  rw [← hA] at Y
  have hvm : s'.vm = s.vm := by rw [hA]; rfl
  have hhp : s'.heap = H := by rw [hA]; exact hT
  have hW0 : s.WarmedH s'.vm := by rw [hvm]; exact State.WarmedH.refl s
  have hat' : ∀ w ∈ vx_atS own ic cls names, w.before args s' = true := fun w hw => vx_ot_at hW0 hvm.symm (hgood w (List.mem_cons_of_mem _ (List.mem_cons_of_mem _ hw))) (hat w hw)
  have hk' : (Cond.classLink own ik cls).before args s' = true := vx_ot_at hW0 hvm.symm (hgood _ List.mem_cons_self) hk
  have hini' : (Cond.initialized cls).before args s' = true := vx_ot_at hW0 hvm.symm (hgood _ (List.mem_cons_of_mem _ List.mem_cons_self)) hini
  have hU' : vx_Zq Bundle.tN "UNASSIGNED_STACK" Bundle.steD A s' s'.heap := by rw [hhp]; exact vx_Zq.moved hW0.alike (hU.kept hS.2.1)
  have hN' : vx_Zq Bundle.tN "SUPPRESSED_SENTINEL" Bundle.listD A s' s'.heap := by rw [hhp]; exact vx_Zq.moved hW0.alike (hN.kept hS.2.1)
  have h : ∀ w ∈ Bundle.ownAtoms own ic cls names, w.before args s' = true := vx_own hat' (vx_isRefq hU'.1) (vx_isRefq hN'.1) hU'.2.word hN'.2.word
  have hown' : s'.vm.findClass own = some m.cls := by rw [hvm]; exact hown
  have hins : (Cond.instantiable cls 6).before args s' = true := h _ (by simp [Bundle.ownAtoms])
  obtain ⟨vm₁, cX, kX, hfX, hkX, -, -, X₁, st1⟩ := Y.newCold hexec (own := own) (C := cls) (index := ik) (n := 6) hown' hk' hins hini'
    (g := F0 m pc ls rest) rfl (by rw [hb]; exact d0) (Nat.le_refl _) (Nat.le_refl _)
  generalize hT1 : (T.setVm vm₁).pushCell { cls := cX, slots := kX.instanceTypes.map defaultValue, vm := .none } = T1 at X₁ st1
  have hcat : (Value.ref T.heap.size).category = 1 := rfl
  have hcellA : T1.heap[T.heap.size]? = some (freshCell cX kX) := by rw [← hT1]; exact State.heap_pushCell_size _ _
  have d3' : decode c.code (pc + 3) = .ok (.dup, 1) := by rw [hb]; exact d3
  have d4' : decode c.code (pc + 4) = .ok (.ldc_w is, 3) := by rw [hb]; exact d4
  have hstr' : vk_R own is text sa s' := vk_R.warm hW0 hstr
  obtain ⟨U, hsteps, hrun, hend, hW, hsame, ce, hce, hO⟩ := X₁.ctorThrowS hexec htr (own := own) (cls := cls) (names := names) (ic := ic) hown' hcls hnames h (fun x hx => nomatch hx) hfX hkX hcellA (by rw [hhp, hT]; exact Nat.le_refl _) (msg := .ref sa) rfl
    (g := { method := m, pc := pc + 7, locals := ls, stack := .ref sa :: .ref T.heap.size :: .ref T.heap.size :: rest, locked := none }) rfl hsize rfl rfl (rest := rest) rfl
    (by rw [hb]; exact d7) (by rw [hb]; exact d10) hout hRframes (by simp only [List.map_cons, List.sum_cons, hcat]; omega) hlocks
  obtain ⟨f1, f2⟩ := vx_frame hsame
  rw [hhp] at f1 f2
  have hWs : s.WarmedH U.vm := State.WarmedH.trans hW0 hW
  have hcl : s.vm.findClass cls = some ce.cls := by
    have h9 := hO.cls
    rw [hvm] at h9
    exact h9
  have hall : s.sameButNew ({ U with vm := s.vm } : State) locs mc ms := by
    subst hA
    obtain ⟨e1, e2⟩ := hsame
    rw [State.setFrames_setFrames] at e1
    have h2 : (T.setVm s.vm).sameButNew ({ U with vm := s.vm } : State) [] (0 + 1) (0 + 6) := ⟨e1, e2⟩
    have h3 := X.same.trans h2
    rw [List.append_nil] at h3
    exact h3.mono hc hs
  refine ⟨U, ?_, .threw T.heap.size, hrun, hend, Or.inr ⟨T.heap.size, rfl, cls, ce, locs, hx U hWs.alike f1 (fun q hq => f2 q hq (fun z hz => nomatch hz)), hce, hO.vm, hcl, hWs, hall, hf⟩⟩
  refine st1 _ ?_
  show Steps p.tables e below (T1.setTop { method := m, pc := pc + 3, locals := ls, stack := .ref T.heap.size :: rest, locked := none }) _
  jvm_step X₁.here [X₁.here.top, hexec, d3', Value.category]
  exact X₁.ldcStringW hexec (own := own) (text := text) (index := is) (a := sa) hown' hstr'.1 hstr'.2
    (g := { method := m, pc := pc + 4, locals := ls, stack := .ref T.heap.size :: .ref T.heap.size :: rest, locked := none }) rfl d4' _ hsteps
end Ends
section Bodies
variable {l : Launch}
theorem vx_ofW {y : MethodName} {ws ws' : List Cond} {rm : Room} {Pc : Array Value → State → Prop} {Qc : Array Value → State → Outcome → State → Prop} {XC : String → State → State → Prop} {mc ms : Nat} {free : Addr → Prop} {cc : ByteArray} {maxL : Nat} {ret : Option FieldType}
    (hy : plainName y.cls = true) (hw : ws = Cond.code y cc maxL ret :: ws')
    (body : ∀ p e s m args below meth c s₁, BodyLoose p l y (headSpec ws rm) cc maxL ret e s m args below meth c s₁ → c.maxLocals = maxL → (∀ x ∈ c.exceptionTable.toList, False) → Pc args s →
      W p l e (headSpec ws rm).room s m args below meth c s.heap [] 0 0 (vx_MQ below Qc XC args s mc ms free) (entryFrame m args maxL)) : vx_Met l y ws rm Pc Qc XC mc ms free := by
  refine MetFree.of_bodyS (code := cc) (maxLocals := maxL) (ret := ret) hy ?_ ?_
  · intro args s m h hn
    obtain ⟨meth, c, h1, h2, h3, h4, h5, h6, -, -⟩ := Cond.code_spec hn (atoms_spec (ws := ws) h _ (by rw [hw]; exact List.mem_cons_self))
    exact ⟨meth, c, h1, h2, h3, h4, h5, h6⟩
  · intro p e s m args below meth c s₁ B hml hP _
    have hh0 : s₁.heap = s.heap := by rw [B.state]; rfl
    have ht : ∀ x ∈ c.exceptionTable.toList, False := by
      obtain ⟨meth9, c9, h1, h2, -, -, -, -, h7, -⟩ := Cond.code_spec B.named (atoms_spec (ws := ws) B.pre _ (by rw [hw]; exact List.mem_cons_self))
      cases Option.some.inj (h1.symm.trans B.method)
      cases Option.some.inj (h2.symm.trans (Stand.of_body B).code)
      intro x hx
      rw [Array.isEmpty_iff.mp h7] at hx
      cases hx
    obtain ⟨t, a1, o, b1, b2, b3⟩ := body p e s m args below meth c s₁ B hml ht hP s₁ hh0 (Stand.of_body B)
    exact ⟨t, o, a1, b1, b2, b3⟩
/-- the table of a body with handlers -/
theorem vx_table {p : Program} {x y : MethodName} {S : Spec} {cc bytes : ByteArray} {maxL maxL' : Nat} {ret ret' : Option FieldType} {e : Env} {s s₁ : State} {m : MethodId} {args : Array Value} {below : List Frame} {meth : Method} {c : Code} {hh : List (Nat × Nat × Nat × Nat)}
    (B : BodyLoose p l y S cc maxL ret e s m args below meth c s₁) (h : (Cond.codeWith y bytes maxL' ret' hh).before args s = true) : c.exceptionTable.toList = tableOf hh := by
  obtain ⟨m9, meth9, c9, hn9, h1, h2, -, -, h6, -⟩ := Cond.codeWith_spec h
  cases Option.some.inj (hn9.symm.trans B.named)
  cases Option.some.inj (h1.symm.trans B.method)
  cases Option.some.inj (h2.symm.trans (Stand.of_body B).code)
  rw [← h6, table_eq]
end Bodies
end VXA
/-! ===== END ===== -/
/-! ===== BEGIN a static call of a method with an exception table ===== -/
section VXS
variable {p : Program} {l : Launch} {e : Env} {R : Room} {s : State} {m : MethodId} {args : Array Value} {below : List Frame} {meth : Method} {c : Code} {T : State} {H : Heap} {locs : List Loc} {cells slots : Nat}
abbrev vx_CSW (R : Room) (s : State) (args : Array Value) (own : String) (index : Nat) (y : MethodName) (bytes : ByteArray) (maxL : Nat) (ret : Option FieldType) (hh : List (Nat × Nat × Nat × Nat)) (ws : List Cond) (rm : Room) (mc ms n : Nat) : Prop :=
  (rm.cells = mc ∧ rm.slots = ms ∧ rm.frames + 1 ≤ R.frames ∧ 8 + (maxL + 11) + rm.locals ≤ R.locals ∧ (∀ w ∈ ws, ∀ (a' : Array Value) (U : State), s.WarmedH U.vm → w.before a' U = true) ∧ Cond.codeWith y bytes maxL ret hh ∈ ws) ∧
  (Cond.codeWith y bytes maxL ret hh).before args s = true ∧ (Cond.initialized y.cls).before args s = true ∧ (y.cls ≠ "java/lang/invoke/MethodHandle" ∧ y.cls ≠ "java/lang/invoke/VarHandle") ∧
  (∀ sig, parseMethodDescriptor y.desc = some sig → n = sig.parameters.length) ∧ (Cond.methodLink own index y).before args s = true ∧ (Cond.static y).before args s = true
theorem vx_cwSW {own : String} {index maxL mc ms : Nat} {y : MethodName} {bytes : ByteArray} {ret : Option FieldType} {hh : List (Nat × Nat × Nat × Nat)} {Ts ws ws' : List Cond} {rm : Room} (n : Nat) (ht : ∀ w ∈ Ts, w.before args s = true) (hT : GoodIn Ts (va_wsS own index y ws)) (hw : ws = Cond.codeWith y bytes maxL ret hh :: ws') (hrc : rm.cells = mc) (hrs : rm.slots = ms)
    (hd : y.cls ≠ "java/lang/invoke/MethodHandle" ∧ y.cls ≠ "java/lang/invoke/VarHandle" ∧ (parseMethodDescriptor y.desc).map (fun d => d.parameters.length) = some n) (hR : rm.frames + 1 ≤ R.frames ∧ 8 + (maxL + 11) + rm.locals ≤ R.locals) :
    vx_CSW R s args own index y bytes maxL ret hh ws rm mc ms n := by
  have ok : ∀ w ∈ va_wsS own index y ws, w.before args s = true := fun w h => ht w (hT w h).1
  have hG : GoodIn Ts ws := fun w h => hT w (by unfold va_wsS; exact List.mem_append_right _ h)
  have hc : Cond.codeWith y bytes maxL ret hh ∈ ws := by rw [hw]; exact List.mem_cons_self
  refine ⟨⟨hrc, hrs, hR.1, hR.2, pay_in ht hG, hc⟩, ht _ (hG _ hc).1, ok _ (by simp [va_wsS]), ⟨hd.1, hd.2.1⟩, fun sig h => ?_, ok _ (by simp [va_wsS]), ok _ (by simp [va_wsS])⟩
  have h2 := hd.2.2
  rw [h] at h2
  exact (Option.some.inj h2).symm
theorem vx_callSW (X : Stand p l e R s m args below meth c T locs cells slots) (hexec : p.tables.exec = Jvm.exec) {own : String} {index : Nat} {y : MethodName} {bytes : ByteArray} {maxL : Nat} {ret : Option FieldType} {hh : List (Nat × Nat × Nat × Nat)}
    (hown : s.vm.findClass own = some m.cls) (hlink : (Cond.methodLink own index y).before args s = true) (hstat : (Cond.static y).before args s = true) (hinit : (Cond.initialized y.cls).before args s = true)
    (hcode : (Cond.codeWith y bytes maxL ret hh).before args s = true) (hy : y.cls ≠ "java/lang/invoke/MethodHandle" ∧ y.cls ≠ "java/lang/invoke/VarHandle")
    {W9 : Nat} {Pre : Pt → Array Value → Prop} {Post : Pt → Array Value → Option Value → Pt → Prop} (hK : Back l R p e below s args y 3 W9 Pre Post)
    {g : JFrame} (hg : g.method = m) (hsize : g.locals.size = c.maxLocals) {argsL rest : List Value} (hlen : ∀ sig, parseMethodDescriptor y.desc = some sig → argsL.length = sig.parameters.length)
    (hstack : g.stack = argsL.reverse ++ rest) (hW : 2 * g.monitorRoom + (rest.map fun v => v.category).sum ≤ W9) (hdg : decode c.code g.pc = .ok (.invokestatic index, 3))
    (hpre : ∀ vm₁, s.WarmedH vm₁ → Pre ⟨T.setVm vm₁, locs, cells, slots⟩ argsL.toArray) :
    ∃ (v : Option Value) (vm₁ : Vm) (B : Pt), s.WarmedH vm₁ ∧ Stand p l e R s m args below meth c B.U B.locs B.cells B.slots ∧ Post ⟨T.setVm vm₁, locs, cells, slots⟩ argsL.toArray v B ∧
      ∀ target, Steps p.tables e below (B.U.setTop { g with pc := g.pc + 3, stack := v.toList ++ rest }) target → Steps p.tables e below (T.setTop g) target := by
  obtain ⟨mk, methM, cM, hnamed, hmethM, -, -, -, -, -, -, hsigM⟩ := Cond.codeWith_spec hcode
  have hstatic : methM.isStatic = true := Cond.static_spec hnamed hmethM hstat
  obtain ⟨kP, hkP, -⟩ := className_of_methodNamed hnamed
  have hinitP : kP.init = .initialized := Cond.initialized_spec (findClass_of_methodNamed hnamed) hkP hinit
  obtain ⟨vm₁, X₁, hstep₁⟩ := X.invokestatic hexec hown hlink hnamed hmethM hstatic hkP hinitP hy (g := g) hg (argsL := argsL) (rest := rest) (hlen _ hsigM) hstack hdg
  obtain ⟨v, B, X', hpost, hsteps⟩ := hK m meth c ⟨T.setVm vm₁, locs, cells, slots⟩ { g with stack := rest } (.invokestatic index) mk argsL.toArray X₁ hg hsize hdg hW (X₁.named hnamed) (hpre vm₁ X₁.warmed)
  exact ⟨v, vm₁, B, X₁.warmed, X', hpost, fun target h => hstep₁ _ fun acts => by rw [doInvoke_state]; exact hsteps.trans h⟩
theorem vx_runSW {y : MethodName} {bytes cc : ByteArray} {maxL nL mc ms n index : Nat} {ret : Option FieldType} {hh : List (Nat × Nat × Nat × Nat)} {ws : List Cond} {rm : Room} {Pc : Array Value → State → Prop} {Qc : Array Value → State → Outcome → State → Prop} {free : Addr → Prop} {Ts : List Cond} {own : String} {As rest : List Value} {g : JFrame}
    (S : CallFix p m c cc nL s args Ts own) (hM : Met l y ws rm Pc Qc mc ms free) (cw : vx_CSW R s args own index y bytes maxL ret hh ws rm mc ms n) (hp : PreS s H Pc As)
    (hg : g.method = m) (hn : As.length = n) (hsize : g.locals.size = nL) (hstack : g.stack = As.reverse ++ rest) (hW : 2 * g.monitorRoom + (rest.map fun v => v.category).sum ≤ 8) (hdg : decode cc g.pc = .ok (.invokestatic index, 3)) (hf : cells + mc ≤ R.cells ∧ slots + ms ≤ R.slots) :
    va_Run p l e R s m args below meth c H locs cells slots mc ms g rest (Qc As.toArray) (free) := by
  obtain ⟨⟨hrc, hrs, hfr, hlo, hws, hcw⟩, hcode, hini, hy, hlen, hl, hstt⟩ := cw
  have hK : Back l R p e below s args y 3 8 (PreOf R mc ms Pc) (PostOf Qc mc ms free) := va_backW (hh := hh) (bytes := bytes) (maxL := maxL) (ret := ret) hM hp.1 hrc hrs hfr hlo hws hcw (fun a' U hW => word_at hW (Or.inl (by first | rfl | simp [Cond.onTables, Cond.keeps, Cond.steady])) hini)
  obtain ⟨hx, hb, hml, ho, -⟩ := S
  intro T hT X
  obtain ⟨v, vm₁, ⟨U', l2, c2, s2⟩, hW₁, X', ⟨g', mk, t, L, e1, e2, hq, h1, hL, h2, h3⟩, st⟩ := vx_callSW X hx (hh := hh) (bytes := bytes) (maxL := maxL) (ret := ret) ho hl hstt hini hcode hy hK hg (hsize.trans hml.symm) (argsL := As) (rest := rest) (fun sig h => hn.trans (hlen sig h)) hstack hW (by rw [hb]; exact hdg)
    (fun vm₁ hW₁ => ⟨hf.1, hf.2, hp.2 (T.setVm vm₁) hT hW₁⟩)
  dsimp only [Pt.U, Pt.locs, Pt.cells, Pt.slots] at X' e1 e2 h1 h2 h3 st
  subst h1; subst h2; subst h3
  exact ⟨v, (T.setVm vm₁).calling g' mk As.toArray, t, U', L, hT, X', hL, e1, e2, hq, st⟩
/-- not caught here, past rows that name other classes: it goes on to the caller -/
theorem vx_outP {p : Program} {l : Launch} {e : Env} {R : Room} {s : State} {m : MethodId} {args : Array Value} {below : List Frame} {meth : Method} {c : Code} {H : Heap} {locs : List Loc} {cells slots : Nat} {free : Addr → Prop} {ls : Array Slot} {rest : List Value} {Qc : Array Value → State → Outcome → State → Prop} {XC : String → State → State → Prop}
    {pc : Nat} {own E : String} {ce : Cell} {q : Addr} {mc ms : Nat} (hown : s.vm.findClass own = some m.cls) (hlocks : meth.locks = false)
    (hpass : ∀ z ∈ c.exceptionTable.toList, covers z pc = false ∨ (z.catchType ≠ 0 ∧ ∃ nm : String, (Cond.classLink own z.catchType nm).before args s = true ∧ va_Nc E nm s)) (hcell : H[q]? = some ce) (hv : ce.vm = .none) (hcl : s.vm.findClass E = some ce.cls)
    (hx : ∀ t : State, t.heap = H → s.vm.Alike t.vm → XC E s t) (hf : ∀ z ∈ locs, free z.base) (hc : cells ≤ mc) (hs : slots ≤ ms) :
    vx_W p l e R s m args below meth c H locs cells slots (vx_MQ below Qc XC args s mc ms free) (F0 m pc ls rest) q := by
  intro T hT X
  have hpl : e.platform.magicAccessors = ({} : Platform).magicAccessors := by rw [X.admits.platform]
  obtain ⟨vm', hW', X', st⟩ := X.outThrough hlocks q (g := F0 m pc ls rest) rfl rfl rfl (cell := ce) (by rw [hT]; exact hcell) (by rw [hv]; rfl)
    (by obtain ⟨k9, h9, -⟩ := Vm.findClass_spec hcl; exact ⟨k9, h9⟩) (fun z hz => by
      rcases hpass z hz with h | ⟨hz0, nm, hl1, hn1⟩
      · exact Or.inl h
      · obtain ⟨c6, hc6, hcl6⟩ := Cond.classLink_spec hown hl1 e.platform hpl
        obtain ⟨a8, b8, h1, h2, h3⟩ := hn1
        cases Option.some.inj (h1.symm.trans hcl)
        cases Option.some.inj (h2.symm.trans hc6)
        exact Or.inr ⟨hz0, _, hcl6, h3⟩)
  obtain ⟨g₀, hfr⟩ := X'.frames_eq
  have hcell9 : ((T.setVm vm').setFrames (.throwing q :: below)).heap[q]? = some ce := by
    show T.heap[q]? = some ce
    rw [hT]; exact hcell
  have hend : Ended ((T.setVm vm').setFrames (.throwing q :: below)) below (.threw q) := State.frames_setFrames _ (State.cur_lt_of_frames hfr)
  refine ⟨(T.setVm vm').setFrames (.throwing q :: below), ?_, .threw q, X'.here.running, hend, Or.inr ⟨q, rfl, E, ce, locs, hx _ hT (X'.ends _).1.alike, hcell9, hv, hcl, (X'.ends _).1, (X'.ends _).2.mono hc hs, hf⟩⟩
  rw [X.pushThrowing_eq]
  exact st
/-- a thing of a world lies in the heap -/
theorem vx_lt {D : va_G} {cl : List vw_C} {ws : va_W} {H1 : Heap} (h : va_P D cl ws H1) {k : Nat} {q : Nat × va_E} (hk : ws[k]? = some q) : q.1 < H1.size := (h k q hk).lt
end VXS
/-! ===== END ===== -/
/-! ===== BEGIN methods with a table of their own: called by a name, returning or throwing ===== -/
section VXH
/-! vx_backW, vx_callVX, vx_callSX, vx_callVW, vx_runVW, vx_runVX, vx_runSX, vx_ofWH follow the same proofs as their sisters above (Free/Laws.lean, Shelf42/LK1.lean); vx_outP calls Shelf42/NT130.lean (outThrough). -/
section
variable {l : Launch} {R : Room} {p : Program} {e : Env} {below : List Frame} {s : State} {sargs : Array Value} {y : MethodName} {len W9 : Nat}
theorem vx_backW {ws : List Cond} {rm : Room} {Pc : Array Value → State → Prop} {Qc : Array Value → State → Outcome → State → Prop} {XC : String → State → State → Prop} {mc ms : Nat} {free : Addr → Prop} {bytes : ByteArray} {maxL : Nat} {ret : Option FieldType} {hh : List (Nat × Nat × Nat × Nat)}
    (hM : vx_Met l y ws rm Pc Qc XC mc ms free) (hblind : FrameBlind Pc) (hrc : rm.cells = mc) (hrs : rm.slots = ms)
    (hframes : rm.frames + 1 ≤ R.frames) (hlocals : W9 + (maxL + 11) + rm.locals ≤ R.locals)
    (hws : ∀ w ∈ ws, ∀ a' U, s.WarmedH U.vm → w.before a' U = true) (hcode : Cond.codeWith y bytes maxL ret hh ∈ ws) (hinit : ∀ a' U, s.WarmedH U.vm → (Cond.initialized y.cls).before a' U = true) :
    vx_Back l R p e below s sargs y len W9 (PreOf R mc ms Pc) (PostOf Qc mc ms free) (vx_Post XC mc ms free) := by
  intro m meth c A g ig mk a X hg hsize hdg hW hn hp
  have h1 : (headSpec ws rm).pre.before a A.U = true := atoms_intro fun w hw => hws w hw _ _ X.warmed
  have h2 : (Cond.codeWith y bytes maxL ret hh).before a A.U = true := hws _ hcode _ _ X.warmed
  have h3 : (Cond.initialized y.cls).before a A.U = true := hinit _ _ X.warmed
  have h4 : A.cells + (headSpec ws rm).room.cells ≤ R.cells := by rw [show (headSpec ws rm).room.cells = mc from hrc]; exact hp.1
  have h5 : A.slots + (headSpec ws rm).room.slots ≤ R.slots := by rw [show (headSpec ws rm).room.slots = ms from hrs]; exact hp.2.1
  have hPc : Pc a (A.U.calling g mk a) := hblind _ _ _ _ hp.2.2
  obtain ⟨U, Ls, c0, s0⟩ := A
  dsimp only [Pt.U, Pt.locs, Pt.cells, Pt.slots] at h1 h2 h3 h4 h5 X hn hPc ⊢
  obtain ⟨m9, methY, cY, hn9, hmY, hcY, -, hlY, -⟩ := Cond.codeWith_spec h2
  cases Option.some.inj (hn9.symm.trans hn)
  obtain ⟨kY, hkY, -⟩ := className_of_methodNamed hn
  have hinitY : kY.init = .initialized := Cond.initialized_spec (findClass_of_methodNamed hn) hkY h3
  have h : At U g.method c below := by rw [hg]; exact X.here
  have hlocals9 : W9 + (maxL + 11) + (headSpec ws rm).room.locals ≤ R.locals := hlocals
  have happ : (headSpec ws rm).appliesLoose y e.platform (U.calling g mk a) = true :=
    Spec.appliesLoose_calling (g := g) h hdg hn hkY hinitY
      (X.room_calling (g := g) (R' := (headSpec ws rm).room) hsize hmY hcY hframes (by rw [hlY]; omega) h4 h5) h1
  obtain ⟨mid, hmid⟩ := h.above
  have hfr : (U.setTop g).frames = (.java g :: mid) ++ below := by rw [State.frames_setTop' g h.top, hmid]; rfl
  obtain ⟨o, s₂, hsteps, -, hend, hq⟩ := Steps.callFree hM p X.admits X.cas X.clock (acts := []) hfr happ hPc trivial
  have hq' : vx_Q Qc XC mc ms free a (U.calling g mk a) o s₂ := hq
  rw [State.frames_setTop' g h.top] at hend
  obtain ⟨g₀, hg0⟩ := Option.isSome_iff_exists.mp h.top
  obtain ⟨r, hr⟩ := State.topJava?_eq_some.mp hg0
  have hr' : (({ U with heap := s₂.heap, slotsUsed := s₂.slotsUsed } : State).setVm s₂.vm).frames = .java g₀ :: r := hr
  rcases hq' with ⟨hqc, L, hfe, hL⟩ | ⟨q, rfl, E, ce, L, hx, hce, hcv, hcl, hW₂, hsm, hL⟩
  · obtain ⟨⟨v, rfl⟩, hW₂, e2, q2, q3, q4, q5, q6⟩ := id hfe
    have e3 : s₂ = ({ (U.calling g mk a).setFrames s₂.frames with heap := s₂.heap, slotsUsed := s₂.slotsUsed } : State).setVm s₂.vm := by
      have : s₂ = ({ s₂ with vm := (U.calling g mk a).vm } : State).setVm s₂.vm := rfl
      rw [e2] at this
      exact this
    obtain ⟨c₂, i₂, len₂, hc₂, hd₂, hf₂⟩ := hend
    have hW' : U.WarmedH s₂.vm := hW₂
    have hcc : c₂ = c := by
      have h1 : s₂.code? g.method = U.code? g.method := by
        rw [State.code?_eq, State.code?_eq, hW'.alike.method?]
      exact Option.some.inj (hc₂.symm.trans (h1.trans h.code))
    subst hcc
    have hlen : len₂ = len := by rw [hdg] at hd₂; cases hd₂; rfl
    subst hlen
    have hs₂ : s₂ = (({ U with heap := s₂.heap, slotsUsed := s₂.slotsUsed } : State).setVm s₂.vm).setTop { g with pc := g.pc + len₂, stack := v.toList ++ g.stack } := by
      refine e3.trans ?_
      rw [hf₂, State.calling_eq h.top, State.setFrames_setFrames, State.setTop_of_frames _ hr', hr]
      rfl
    have hsame : U.sameButNew ({ U with heap := s₂.heap, slotsUsed := s₂.slotsUsed } : State) L mc ms := by
      refine ⟨?_, q2, q3, q4, q5, q6⟩
      obtain ⟨t, ht, -⟩ := State.frames_cons hr
      show ({ U with heap := s₂.heap, slotsUsed := s₂.slotsUsed } : State) = { U.setFrames U.frames with heap := s₂.heap, slotsUsed := s₂.slotsUsed }
      rw [State.setFrames_self ht]
    subst hg
    refine Or.inl ⟨v, ⟨(({ U with heap := s₂.heap, slotsUsed := s₂.slotsUsed } : State).setVm s₂.vm), Ls ++ L, c0 + mc, s0 + ms⟩,
      ⟨X.admits, X.cas, X.clock, X.frames, X.room, X.hears, X.method, X.code, (X.here.setHeapUsed s₂.heap s₂.slotsUsed).setVm hW'.alike, X.tail, State.WarmedH.trans X.warmed hW', X.limits, X.bytes, X.same.trans (hsame.setVm s.vm)⟩,
      ⟨g, mk, s₂, L, rfl, rfl, hqc, rfl, hL, rfl, rfl⟩, ?_⟩
    show Steps p.tables e below _ ((({ U with heap := s₂.heap, slotsUsed := s₂.slotsUsed } : State).setVm s₂.vm).setTop { g with pc := g.pc + len₂, stack := v.toList ++ g.stack })
    rw [← hs₂]
    exact hsteps
  · obtain ⟨e2, q2, q3, q4, q5, q6⟩ := id hsm
    have e3 : s₂ = ({ (U.calling g mk a).setFrames s₂.frames with heap := s₂.heap, slotsUsed := s₂.slotsUsed } : State).setVm s₂.vm := by
      have : s₂ = ({ s₂ with vm := (U.calling g mk a).vm } : State).setVm s₂.vm := rfl
      rw [e2] at this
      exact this
    have hf₂ : s₂.frames = .throwing q :: .java g :: U.frames.tail := hend
    have hW' : U.WarmedH s₂.vm := hW₂
    have hs₂ : s₂ = ((({ U with heap := s₂.heap, slotsUsed := s₂.slotsUsed } : State).setVm s₂.vm).setTop g).pushFrame (.throwing q) := by
      refine e3.trans ?_
      rw [hf₂, State.calling_eq h.top, State.setFrames_setFrames, State.pushFrame, State.frames_setTop _ hr', State.setTop_of_frames _ hr', State.setFrames_setFrames, hr]
      rfl
    have hsame : U.sameButNew ({ U with heap := s₂.heap, slotsUsed := s₂.slotsUsed } : State) L mc ms := by
      refine ⟨?_, q2, q3, q4, q5, q6⟩
      obtain ⟨t, ht, -⟩ := State.frames_cons hr
      show ({ U with heap := s₂.heap, slotsUsed := s₂.slotsUsed } : State) = { U.setFrames U.frames with heap := s₂.heap, slotsUsed := s₂.slotsUsed }
      rw [State.setFrames_self ht]
    subst hg
    refine Or.inr ⟨q, ⟨(({ U with heap := s₂.heap, slotsUsed := s₂.slotsUsed } : State).setVm s₂.vm), Ls ++ L, c0 + mc, s0 + ms⟩,
      ⟨X.admits, X.cas, X.clock, X.frames, X.room, X.hears, X.method, X.code, (X.here.setHeapUsed s₂.heap s₂.slotsUsed).setVm hW'.alike, X.tail, State.WarmedH.trans X.warmed hW', X.limits, X.bytes, X.same.trans (hsame.setVm s.vm)⟩,
      ⟨g, mk, s₂, L, E, ce, rfl, rfl, hx, hce, hcv, hcl, rfl, hL, rfl, rfl⟩, ?_⟩
    show Steps p.tables e below _ (((({ U with heap := s₂.heap, slotsUsed := s₂.slotsUsed } : State).setVm s₂.vm).setTop g).pushFrame (.throwing q))
    rw [← hs₂]
    exact hsteps
end
variable {p : Program} {l : Launch} {e : Env} {R : Room} {s : State} {m : MethodId} {args : Array Value} {below : List Frame} {meth : Method} {c : Code} {T : State} {H : Heap} {locs : List Loc} {cells slots : Nat}
theorem vx_callVX (X : Stand p l e R s m args below meth c T locs cells slots) (hexec : p.tables.exec = Jvm.exec) {own C : String} {index : Nat} {y : MethodName} {bytes : ByteArray} {maxL : Nat} {ret : Option FieldType} {hh : List (Nat × Nat × Nat × Nat)}
    (hown : s.vm.findClass own = some m.cls) (hlink : (Cond.methodLink own index y).before args s = true) (hinst : (Cond.instanceMethod y).before args s = true) (hsel : (Cond.selects C y y).before args s = true)
    (hcode : (Cond.codeWith y bytes maxL ret hh).before args s = true) (hy : y.cls ≠ "java/lang/invoke/MethodHandle" ∧ y.cls ≠ "java/lang/invoke/VarHandle")
    {W9 : Nat} {Pre : Pt → Array Value → Prop} {Post : Pt → Array Value → Option Value → Pt → Prop} {PostX : Pt → Array Value → Addr → Pt → Prop} (hK : vx_Back l R p e below s args y 3 W9 Pre Post PostX)
    {b : Addr} {cellB : Cell} (hcell : T.heap[b]? = some cellB) (hobj : cellB.vm.isStatics = false) (hcls : s.vm.findClass C = some cellB.cls)
    {g : JFrame} (hg : g.method = m) (hsize : g.locals.size = c.maxLocals) {argsL rest : List Value} (hlen : ∀ sig, parseMethodDescriptor y.desc = some sig → argsL.length = sig.parameters.length)
    (hstack : g.stack = argsL.reverse ++ .ref b :: rest) (hW : 2 * g.monitorRoom + (rest.map fun v => v.category).sum ≤ W9) (hdg : decode c.code g.pc = .ok (.invokevirtual index, 3))
    (hpre : ∀ vm₁, s.WarmedH vm₁ → Pre ⟨T.setVm vm₁, locs, cells, slots⟩ (Value.ref b :: argsL).toArray) :
    (∃ (v : Option Value) (vm₁ : Vm) (B : Pt), s.WarmedH vm₁ ∧ Stand p l e R s m args below meth c B.U B.locs B.cells B.slots ∧ Post ⟨T.setVm vm₁, locs, cells, slots⟩ (Value.ref b :: argsL).toArray v B ∧
      ∀ target, Steps p.tables e below (B.U.setTop { g with pc := g.pc + 3, stack := v.toList ++ rest }) target → Steps p.tables e below (T.setTop g) target) ∨
    (∃ (q : Addr) (vm₁ : Vm) (B : Pt), s.WarmedH vm₁ ∧ Stand p l e R s m args below meth c B.U B.locs B.cells B.slots ∧ PostX ⟨T.setVm vm₁, locs, cells, slots⟩ (Value.ref b :: argsL).toArray q B ∧
      Steps p.tables e below (T.setTop g) ((B.U.setTop { g with stack := rest }).pushFrame (.throwing q))) := by
  obtain ⟨mk, methM, hnamed, hmethM, hstM, habM⟩ := Cond.instanceMethod_spec hinst
  obtain ⟨m8, methM', cM, hn8, hmethM', -, -, -, -, -, -, hsigM⟩ := Cond.codeWith_spec hcode
  cases Option.some.inj (hn8.symm.trans hnamed)
  cases hmethM.symm.trans hmethM'
  obtain ⟨c2, r2, m2, q1, q2, q3, q4, kP, hkP, hkPi⟩ := Cond.selects_spec hsel
  cases hcls.symm.trans q1
  cases (State.methodFound?_of_named hnamed hy).symm.trans q2
  cases hnamed.symm.trans q3
  have hselP : selectMethod e.platform s.vm cellB.cls mk = .method mk := by rw [Launch.admits_selectMethod X.admits]; exact q4
  obtain ⟨vm₁, X₁, hstep₁⟩ := X.invokevirtual hexec hown hlink hnamed hmethM hstM hkP hkPi hy (a := b) (cell := cellB) hcell
    (fun z h => by rw [h] at hobj; cases hobj) hselP hmethM habM hkP hkPi (g := g) hg (argsL := argsL) (rest := rest) (hlen _ hsigM) hstack hdg
  rcases hK m meth c ⟨T.setVm vm₁, locs, cells, slots⟩ { g with stack := rest } (.invokevirtual index) mk (Value.ref b :: argsL).toArray X₁ hg hsize hdg hW (X₁.named hnamed) (hpre vm₁ X₁.warmed) with ⟨v, B, X', hpost, hsteps⟩ | ⟨q, B, X', hpost, hsteps⟩
  · exact Or.inl ⟨v, vm₁, B, X₁.warmed, X', hpost, fun target h => hstep₁ _ fun acts => by rw [doInvoke_state]; exact hsteps.trans h⟩
  · exact Or.inr ⟨q, vm₁, B, X₁.warmed, X', hpost, hstep₁ _ fun acts => by rw [doInvoke_state]; exact hsteps⟩
theorem vx_callSX (X : Stand p l e R s m args below meth c T locs cells slots) (hexec : p.tables.exec = Jvm.exec) {own : String} {index : Nat} {y : MethodName} {bytes : ByteArray} {maxL : Nat} {ret : Option FieldType} {hh : List (Nat × Nat × Nat × Nat)}
    (hown : s.vm.findClass own = some m.cls) (hlink : (Cond.methodLink own index y).before args s = true) (hstat : (Cond.static y).before args s = true) (hinit : (Cond.initialized y.cls).before args s = true)
    (hcode : (Cond.codeWith y bytes maxL ret hh).before args s = true) (hy : y.cls ≠ "java/lang/invoke/MethodHandle" ∧ y.cls ≠ "java/lang/invoke/VarHandle")
    {W9 : Nat} {Pre : Pt → Array Value → Prop} {Post : Pt → Array Value → Option Value → Pt → Prop} {PostX : Pt → Array Value → Addr → Pt → Prop} (hK : vx_Back l R p e below s args y 3 W9 Pre Post PostX)
    {g : JFrame} (hg : g.method = m) (hsize : g.locals.size = c.maxLocals) {argsL rest : List Value} (hlen : ∀ sig, parseMethodDescriptor y.desc = some sig → argsL.length = sig.parameters.length)
    (hstack : g.stack = argsL.reverse ++ rest) (hW : 2 * g.monitorRoom + (rest.map fun v => v.category).sum ≤ W9) (hdg : decode c.code g.pc = .ok (.invokestatic index, 3))
    (hpre : ∀ vm₁, s.WarmedH vm₁ → Pre ⟨T.setVm vm₁, locs, cells, slots⟩ argsL.toArray) :
    (∃ (v : Option Value) (vm₁ : Vm) (B : Pt), s.WarmedH vm₁ ∧ Stand p l e R s m args below meth c B.U B.locs B.cells B.slots ∧ Post ⟨T.setVm vm₁, locs, cells, slots⟩ argsL.toArray v B ∧
      ∀ target, Steps p.tables e below (B.U.setTop { g with pc := g.pc + 3, stack := v.toList ++ rest }) target → Steps p.tables e below (T.setTop g) target) ∨
    (∃ (q : Addr) (vm₁ : Vm) (B : Pt), s.WarmedH vm₁ ∧ Stand p l e R s m args below meth c B.U B.locs B.cells B.slots ∧ PostX ⟨T.setVm vm₁, locs, cells, slots⟩ argsL.toArray q B ∧
      Steps p.tables e below (T.setTop g) ((B.U.setTop { g with stack := rest }).pushFrame (.throwing q))) := by
  obtain ⟨mk, methM, cM, hnamed, hmethM, -, -, -, -, -, -, hsigM⟩ := Cond.codeWith_spec hcode
  have hstatic : methM.isStatic = true := Cond.static_spec hnamed hmethM hstat
  obtain ⟨kP, hkP, -⟩ := className_of_methodNamed hnamed
  have hinitP : kP.init = .initialized := Cond.initialized_spec (findClass_of_methodNamed hnamed) hkP hinit
  obtain ⟨vm₁, X₁, hstep₁⟩ := X.invokestatic hexec hown hlink hnamed hmethM hstatic hkP hinitP hy (g := g) hg (argsL := argsL) (rest := rest) (hlen _ hsigM) hstack hdg
  rcases hK m meth c ⟨T.setVm vm₁, locs, cells, slots⟩ { g with stack := rest } (.invokestatic index) mk argsL.toArray X₁ hg hsize hdg hW (X₁.named hnamed) (hpre vm₁ X₁.warmed) with ⟨v, B, X', hpost, hsteps⟩ | ⟨q, B, X', hpost, hsteps⟩
  · exact Or.inl ⟨v, vm₁, B, X₁.warmed, X', hpost, fun target h => hstep₁ _ fun acts => by rw [doInvoke_state]; exact hsteps.trans h⟩
  · exact Or.inr ⟨q, vm₁, B, X₁.warmed, X', hpost, hstep₁ _ fun acts => by rw [doInvoke_state]; exact hsteps⟩
theorem vx_callVW (X : Stand p l e R s m args below meth c T locs cells slots) (hexec : p.tables.exec = Jvm.exec) {own C : String} {index : Nat} {y : MethodName} {bytes : ByteArray} {maxL : Nat} {ret : Option FieldType} {hh : List (Nat × Nat × Nat × Nat)}
    (hown : s.vm.findClass own = some m.cls) (hlink : (Cond.methodLink own index y).before args s = true) (hinst : (Cond.instanceMethod y).before args s = true) (hsel : (Cond.selects C y y).before args s = true)
    (hcode : (Cond.codeWith y bytes maxL ret hh).before args s = true) (hy : y.cls ≠ "java/lang/invoke/MethodHandle" ∧ y.cls ≠ "java/lang/invoke/VarHandle")
    {W9 : Nat} {Pre : Pt → Array Value → Prop} {Post : Pt → Array Value → Option Value → Pt → Prop} (hK : Back l R p e below s args y 3 W9 Pre Post)
    {b : Addr} {cellB : Cell} (hcell : T.heap[b]? = some cellB) (hobj : cellB.vm.isStatics = false) (hcls : s.vm.findClass C = some cellB.cls)
    {g : JFrame} (hg : g.method = m) (hsize : g.locals.size = c.maxLocals) {argsL rest : List Value} (hlen : ∀ sig, parseMethodDescriptor y.desc = some sig → argsL.length = sig.parameters.length)
    (hstack : g.stack = argsL.reverse ++ .ref b :: rest) (hW : 2 * g.monitorRoom + (rest.map fun v => v.category).sum ≤ W9) (hdg : decode c.code g.pc = .ok (.invokevirtual index, 3))
    (hpre : ∀ vm₁, s.WarmedH vm₁ → Pre ⟨T.setVm vm₁, locs, cells, slots⟩ (Value.ref b :: argsL).toArray) :
    ∃ (v : Option Value) (vm₁ : Vm) (B : Pt), s.WarmedH vm₁ ∧ Stand p l e R s m args below meth c B.U B.locs B.cells B.slots ∧ Post ⟨T.setVm vm₁, locs, cells, slots⟩ (Value.ref b :: argsL).toArray v B ∧
      ∀ target, Steps p.tables e below (B.U.setTop { g with pc := g.pc + 3, stack := v.toList ++ rest }) target → Steps p.tables e below (T.setTop g) target := by
  obtain ⟨mk, methM, hnamed, hmethM, hstM, habM⟩ := Cond.instanceMethod_spec hinst
  obtain ⟨m8, methM', cM, hn8, hmethM', -, -, -, -, -, -, hsigM⟩ := Cond.codeWith_spec hcode
  cases Option.some.inj (hn8.symm.trans hnamed)
  cases hmethM.symm.trans hmethM'
  obtain ⟨c2, r2, m2, q1, q2, q3, q4, kP, hkP, hkPi⟩ := Cond.selects_spec hsel
  cases hcls.symm.trans q1
  cases (State.methodFound?_of_named hnamed hy).symm.trans q2
  cases hnamed.symm.trans q3
  have hselP : selectMethod e.platform s.vm cellB.cls mk = .method mk := by rw [Launch.admits_selectMethod X.admits]; exact q4
  obtain ⟨vm₁, X₁, hstep₁⟩ := X.invokevirtual hexec hown hlink hnamed hmethM hstM hkP hkPi hy (a := b) (cell := cellB) hcell
    (fun z h => by rw [h] at hobj; cases hobj) hselP hmethM habM hkP hkPi (g := g) hg (argsL := argsL) (rest := rest) (hlen _ hsigM) hstack hdg
  obtain ⟨v, B, X', hpost, hsteps⟩ := hK m meth c ⟨T.setVm vm₁, locs, cells, slots⟩ { g with stack := rest } (.invokevirtual index) mk (Value.ref b :: argsL).toArray X₁ hg hsize hdg hW (X₁.named hnamed) (hpre vm₁ X₁.warmed)
  exact ⟨v, vm₁, B, X₁.warmed, X', hpost, fun target h => hstep₁ _ fun acts => by rw [doInvoke_state]; exact hsteps.trans h⟩
abbrev vx_CVW (R : Room) (s : State) (args : Array Value) (own C : String) (index : Nat) (y : MethodName) (bytes : ByteArray) (maxL : Nat) (ret : Option FieldType) (hh : List (Nat × Nat × Nat × Nat)) (ws : List Cond) (rm : Room) (mc ms n : Nat) : Prop :=
  (rm.cells = mc ∧ rm.slots = ms ∧ rm.frames + 1 ≤ R.frames ∧ 8 + (maxL + 11) + rm.locals ≤ R.locals ∧ (∀ w ∈ ws, ∀ (a' : Array Value) (U : State), s.WarmedH U.vm → w.before a' U = true) ∧ Cond.codeWith y bytes maxL ret hh ∈ ws) ∧
  (Cond.codeWith y bytes maxL ret hh).before args s = true ∧ (Cond.initialized y.cls).before args s = true ∧ (y.cls ≠ "java/lang/invoke/MethodHandle" ∧ y.cls ≠ "java/lang/invoke/VarHandle") ∧
  (∀ sig, parseMethodDescriptor y.desc = some sig → n = sig.parameters.length) ∧ (Cond.methodLink own index y).before args s = true ∧ (Cond.instanceMethod y).before args s = true ∧ (Cond.selects C y y).before args s = true
theorem vx_cwVW {own C : String} {index maxL mc ms : Nat} {y : MethodName} {bytes : ByteArray} {ret : Option FieldType} {hh : List (Nat × Nat × Nat × Nat)} {Ts ws ws' : List Cond} {rm : Room} (n : Nat) (ht : ∀ w ∈ Ts, w.before args s = true) (hT : GoodIn Ts (wsV own index C y ws)) (hw : ws = Cond.codeWith y bytes maxL ret hh :: ws') (hrc : rm.cells = mc) (hrs : rm.slots = ms)
    (hd : y.cls = C ∧ y.cls ≠ "java/lang/invoke/MethodHandle" ∧ y.cls ≠ "java/lang/invoke/VarHandle" ∧ (parseMethodDescriptor y.desc).map (fun d => d.parameters.length) = some n) (hR : rm.frames + 1 ≤ R.frames ∧ 8 + (maxL + 11) + rm.locals ≤ R.locals) :
    vx_CVW R s args own C index y bytes maxL ret hh ws rm mc ms n := by
  obtain ⟨hC, hd⟩ := hd
  subst hC
  have ok : ∀ w ∈ wsV own index y.cls y ws, w.before args s = true := fun w h => ht w (hT w h).1
  have hG : GoodIn Ts ws := fun w h => hT w (by unfold wsV; exact List.mem_append_right _ h)
  have hc : Cond.codeWith y bytes maxL ret hh ∈ ws := by rw [hw]; exact List.mem_cons_self
  refine ⟨⟨hrc, hrs, hR.1, hR.2, pay_in ht hG, hc⟩, ht _ (hG _ hc).1, ok _ (by simp [wsV]), ⟨hd.1, hd.2.1⟩, fun sig h => ?_, ok _ (by simp [wsV]), ok _ (by simp [wsV]), ok _ (by simp [wsV])⟩
  have h2 := hd.2.2
  rw [h] at h2
  exact (Option.some.inj h2).symm
theorem vx_runVW {y : MethodName} {bytes cc : ByteArray} {maxL nL mc ms n index : Nat} {ret : Option FieldType} {hh : List (Nat × Nat × Nat × Nat)} {ws : List Cond} {rm : Room} {Pc : Array Value → State → Prop} {Qc : Array Value → State → Outcome → State → Prop} {free : Addr → Prop} {Ts : List Cond} {own C : String} {b : Addr} {As rest : List Value} {g : JFrame}
    (S : CallFix p m c cc nL s args Ts own) (hM : Met l y ws rm Pc Qc mc ms free) (cw : vx_CVW R s args own C index y bytes maxL ret hh ws rm mc ms n) (hp : PreV s H C b Pc As)
    (hg : g.method = m) (hn : As.length = n) (hsize : g.locals.size = nL) (hstack : g.stack = As.reverse ++ .ref b :: rest) (hW : 2 * g.monitorRoom + (rest.map fun v => v.category).sum ≤ 8) (hdg : decode cc g.pc = .ok (.invokevirtual index, 3)) (hf : cells + mc ≤ R.cells ∧ slots + ms ≤ R.slots) :
    va_Run p l e R s m args below meth c H locs cells slots mc ms g rest (Qc (Value.ref b :: As).toArray) free := by
  obtain ⟨⟨hrc, hrs, hfr, hlo, hws, hcw⟩, hcode, hini, hy, hlen, hl, hin, hse⟩ := cw
  have hK : Back l R p e below s args y 3 8 (PreOf R mc ms Pc) (PostOf Qc mc ms free) := va_backW (hh := hh) (bytes := bytes) (maxL := maxL) (ret := ret) hM hp.1 hrc hrs hfr hlo hws hcw (fun a' U hW => word_at hW (Or.inl (by first | rfl | simp [Cond.onTables, Cond.keeps, Cond.steady])) hini)
  obtain ⟨hx, hb, hml, ho, -⟩ := S
  obtain ⟨-, ⟨cellB, hcB, hoB, hclB⟩, hPc⟩ := hp
  intro T hT X
  obtain ⟨v, vm₁, ⟨U', l2, c2, s2⟩, hW₁, X', ⟨g', mk, t, L, e1, e2, hq, h1, hL, h2, h3⟩, st⟩ := vx_callVW X hx (C := C) (hh := hh) (bytes := bytes) (maxL := maxL) (ret := ret) ho hl hin hse hcode hy hK (by rw [hT]; exact hcB) hoB hclB hg (hsize.trans hml.symm) (argsL := As) (rest := rest) (fun sig h => hn.trans (hlen sig h)) hstack hW (by rw [hb]; exact hdg)
    (fun vm₁ hW₁ => ⟨hf.1, hf.2, hPc (T.setVm vm₁) hT hW₁⟩)
  dsimp only [Pt.U, Pt.locs, Pt.cells, Pt.slots] at X' e1 e2 h1 h2 h3 st
  subst h1; subst h2; subst h3
  exact ⟨v, (T.setVm vm₁).calling g' mk (Value.ref b :: As).toArray, t, U', L, hT, X', hL, e1, e2, hq, st⟩
section
variable {y : MethodName} {bytes cc : ByteArray} {maxL nL mc ms n index : Nat} {ret : Option FieldType} {ws : List Cond} {rm : Room} {Pc : Array Value → State → Prop} {Qc : Array Value → State → Outcome → State → Prop} {XC : String → State → State → Prop} {free : Addr → Prop} {Ts : List Cond} {own C : String} {b : Addr} {As rest : List Value} {g : JFrame}
theorem vx_runVX {hh : List (Nat × Nat × Nat × Nat)} (S : CallFix p m c cc nL s args Ts own) (hM : vx_Met l y ws rm Pc Qc XC mc ms free) (cw : vx_CVW R s args own C index y bytes maxL ret hh ws rm mc ms n) (hp : PreV s H C b Pc As)
    (hg : g.method = m) (hn : As.length = n) (hsize : g.locals.size = nL) (hstack : g.stack = As.reverse ++ .ref b :: rest) (hW : 2 * g.monitorRoom + (rest.map fun v => v.category).sum ≤ 8) (hdg : decode cc g.pc = .ok (.invokevirtual index, 3)) (hf : cells + mc ≤ R.cells ∧ slots + ms ≤ R.slots) :
    vx_Run p l e R s m args below meth c H locs cells slots mc ms g rest (Qc (Value.ref b :: As).toArray) XC free := by
  obtain ⟨⟨hrc, hrs, hfr, hlo, hws, hcw⟩, hcode, hini, hy, hlen, hl, hin, hse⟩ := cw
  have hK : vx_Back l R p e below s args y 3 8 (PreOf R mc ms Pc) (PostOf Qc mc ms free) (vx_Post XC mc ms free) := vx_backW (hh := hh) (bytes := bytes) (maxL := maxL) (ret := ret) hM hp.1 hrc hrs hfr hlo hws hcw (fun a' U hW => word_at hW (Or.inl (by first | rfl | simp [Cond.onTables, Cond.keeps, Cond.steady])) hini)
  obtain ⟨hx, hb, hml, ho, -⟩ := S
  obtain ⟨-, ⟨cellB, hcB, hoB, hclB⟩, hPc⟩ := hp
  intro T hT X
  rcases vx_callVX X hx (C := C) (hh := hh) (bytes := bytes) (maxL := maxL) (ret := ret) ho hl hin hse hcode hy hK (by rw [hT]; exact hcB) hoB hclB hg (hsize.trans hml.symm) (argsL := As) (rest := rest) (fun sig h => hn.trans (hlen sig h)) hstack hW (by rw [hb]; exact hdg)
    (fun vm₁ hW₁ => ⟨hf.1, hf.2, hPc (T.setVm vm₁) hT hW₁⟩) with ⟨v, vm₁, ⟨U', l2, c2, s2⟩, hW₁, X', ⟨g', mk, t, L, e1, e2, hq, h1, hL, h2, h3⟩, st⟩ | ⟨q, vm₁, ⟨U', l2, c2, s2⟩, hW₁, X', ⟨g', mk, t, L, E, ce, e1, e2, hq, hce, hcv, hcl, h1, hL, h2, h3⟩, st⟩
  · dsimp only [Pt.U, Pt.locs, Pt.cells, Pt.slots] at X' e1 e2 h1 h2 h3 st
    subst h1; subst h2; subst h3
    exact Or.inl ⟨v, (T.setVm vm₁).calling g' mk (Value.ref b :: As).toArray, t, U', L, hT, X', hL, e1, e2, hq, st⟩
  · dsimp only [Pt.U, Pt.locs, Pt.cells, Pt.slots] at X' e1 e2 h1 h2 h3 st hcl
    subst h1; subst h2; subst h3
    exact Or.inr ⟨q, (T.setVm vm₁).calling g' mk (Value.ref b :: As).toArray, t, U', L, E, ce, hT, X', hL, e1, e2, hq, hce, hcv, vx_cls hW₁ hcl, st⟩
theorem vx_runSX {hh : List (Nat × Nat × Nat × Nat)} (S : CallFix p m c cc nL s args Ts own) (hM : vx_Met l y ws rm Pc Qc XC mc ms free) (cw : vx_CSW R s args own index y bytes maxL ret hh ws rm mc ms n) (hp : PreS s H Pc As)
    (hg : g.method = m) (hn : As.length = n) (hsize : g.locals.size = nL) (hstack : g.stack = As.reverse ++ rest) (hW : 2 * g.monitorRoom + (rest.map fun v => v.category).sum ≤ 8) (hdg : decode cc g.pc = .ok (.invokestatic index, 3)) (hf : cells + mc ≤ R.cells ∧ slots + ms ≤ R.slots) :
    vx_Run p l e R s m args below meth c H locs cells slots mc ms g rest (Qc As.toArray) XC free := by
  obtain ⟨⟨hrc, hrs, hfr, hlo, hws, hcw⟩, hcode, hini, hy, hlen, hl, hstt⟩ := cw
  have hK : vx_Back l R p e below s args y 3 8 (PreOf R mc ms Pc) (PostOf Qc mc ms free) (vx_Post XC mc ms free) := vx_backW (hh := hh) (bytes := bytes) (maxL := maxL) (ret := ret) hM hp.1 hrc hrs hfr hlo hws hcw (fun a' U hW => word_at hW (Or.inl (by first | rfl | simp [Cond.onTables, Cond.keeps, Cond.steady])) hini)
  obtain ⟨hx, hb, hml, ho, -⟩ := S
  intro T hT X
  rcases vx_callSX X hx (hh := hh) (bytes := bytes) (maxL := maxL) (ret := ret) ho hl hstt hini hcode hy hK hg (hsize.trans hml.symm) (argsL := As) (rest := rest) (fun sig h => hn.trans (hlen sig h)) hstack hW (by rw [hb]; exact hdg)
    (fun vm₁ hW₁ => ⟨hf.1, hf.2, hp.2 (T.setVm vm₁) hT hW₁⟩) with ⟨v, vm₁, ⟨U', l2, c2, s2⟩, hW₁, X', ⟨g', mk, t, L, e1, e2, hq, h1, hL, h2, h3⟩, st⟩ | ⟨q, vm₁, ⟨U', l2, c2, s2⟩, hW₁, X', ⟨g', mk, t, L, E, ce, e1, e2, hq, hce, hcv, hcl, h1, hL, h2, h3⟩, st⟩
  · dsimp only [Pt.U, Pt.locs, Pt.cells, Pt.slots] at X' e1 e2 h1 h2 h3 st
    subst h1; subst h2; subst h3
    exact Or.inl ⟨v, (T.setVm vm₁).calling g' mk As.toArray, t, U', L, hT, X', hL, e1, e2, hq, st⟩
  · dsimp only [Pt.U, Pt.locs, Pt.cells, Pt.slots] at X' e1 e2 h1 h2 h3 st hcl
    subst h1; subst h2; subst h3
    exact Or.inr ⟨q, (T.setVm vm₁).calling g' mk As.toArray, t, U', L, E, ce, hT, X', hL, e1, e2, hq, hce, hcv, vx_cls hW₁ hcl, st⟩
end
end VXH
theorem vx_ofWH {l : Launch} {y : MethodName} {ws ws' : List Cond} {rm : Room} {Pc : Array Value → State → Prop} {Qc : Array Value → State → Outcome → State → Prop} {XC : String → State → State → Prop} {mc ms : Nat} {free : Addr → Prop} {cc : ByteArray} {maxL : Nat} {ret : Option FieldType} {hh : List (Nat × Nat × Nat × Nat)}
    (hy : plainName y.cls = true) (hw : ws = Cond.codeWith y cc maxL ret hh :: ws')
    (body : ∀ p e s m args below meth c s₁, BodyLoose p l y (headSpec ws rm) cc maxL ret e s m args below meth c s₁ → c.maxLocals = maxL → Pc args s →
      W p l e (headSpec ws rm).room s m args below meth c s.heap [] 0 0 (vx_MQ below Qc XC args s mc ms free) (entryFrame m args maxL)) : vx_Met l y ws rm Pc Qc XC mc ms free := by
  refine MetFree.of_bodyS (code := cc) (maxLocals := maxL) (ret := ret) hy ?_ ?_
  · intro args s m h hn
    obtain ⟨m9, meth, c, hn9, h1, h2, h3, h4, -, h5, h6, -⟩ := Cond.codeWith_spec (atoms_spec (ws := ws) h _ (by rw [hw]; exact List.mem_cons_self))
    cases hn.symm.trans hn9
    exact ⟨meth, c, h1, h2, h3, h4, h5, h6⟩
  · intro p e s m args below meth c s₁ B hml hP _
    have hh0 : s₁.heap = s.heap := by rw [B.state]; rfl
    obtain ⟨t, a1, o, b1, b2, b3⟩ := body p e s m args below meth c s₁ B hml hP s₁ hh0 (Stand.of_body B)
    exact ⟨t, o, a1, b1, b2, b3⟩
/-! ===== END ===== -/
end
section
/-! ===== BEGIN printed: names, fields, word lists, decode rows ===== -/
def RX0 : String := "FlowNetwork$Cuts"
def TX0 : u_T := fun k => match k with
  | 0 => ("FlowNetwork$Cuts", "count", "I", false)
  | 1 => ("FlowNetwork$Cuts", "masks", "[I", true)
  | _ => ("FlowNetwork$Cuts", "reachable", "[I", true)
def tyX0 : Nat → FieldType := fun k => match k with
  | 0 => .int
  | 1 => .array .int
  | _ => .array .int
abbrev wsX00 : List Cond := u_ws RX0 TX0 3
theorem nmX0 : ∀ a, a < 3 → ∀ b, b < 3 → a ≠ b → (TX0 a).2.1 ≠ (TX0 b).2.1 := by decide +kernel
theorem tyX0_ok : ∀ k, k < 3 → parseFieldDescriptor (TX0 k).2.2.1 = some (tyX0 k) := by decide +kernel
abbrev cX0_init : ByteArray := prog_2_method_1_code
def yX0_init : MethodName := ⟨RX0, "<init>", "()V"⟩
def RX1 : String := "FlowNetwork$Flow"
def TX1 : u_T := fun k => match k with
  | 0 => ("FlowNetwork$Flow", "network", "LFlowNetwork$Network;", true)
  | 1 => ("FlowNetwork$Flow", "capacity", "[I", true)
  | _ => ("FlowNetwork$Flow", "amount", "[I", true)
def tyX1 : Nat → FieldType := fun k => match k with
  | 0 => .object "FlowNetwork$Network"
  | 1 => .array .int
  | _ => .array .int
abbrev wsX10 : List Cond := u_ws RX1 TX1 3
theorem nmX1 : ∀ a, a < 3 → ∀ b, b < 3 → a ≠ b → (TX1 a).2.1 ≠ (TX1 b).2.1 := by decide +kernel
theorem tyX1_ok : ∀ k, k < 3 → parseFieldDescriptor (TX1 k).2.2.1 = some (tyX1 k) := by decide +kernel
abbrev cX1_init : ByteArray := prog_3_method_1_code
def yX1_init : MethodName := ⟨RX1, "<init>", "(LFlowNetwork$Network;)V"⟩
abbrev cX1_copy : ByteArray := prog_3_method_2_code
def yX1_copy : MethodName := ⟨RX1, "copy", "(LFlowNetwork$Flow;)V"⟩
abbrev cX1_block : ByteArray := prog_3_method_3_code
def yX1_block : MethodName := ⟨RX1, "block", "(I)V"⟩
abbrev cX1_room : ByteArray := prog_3_method_4_code
def yX1_room : MethodName := ⟨RX1, "room", "(II)I"⟩
abbrev cX1_send : ByteArray := prog_3_method_5_code
def yX1_send : MethodName := ⟨RX1, "send", "(III)V"⟩
abbrev cX1_reachableFrom : ByteArray := prog_3_method_6_code
def yX1_reachableFrom : MethodName := ⟨RX1, "reachableFrom", "(I)I"⟩
abbrev cX1_withNeighbours : ByteArray := prog_3_method_7_code
def yX1_withNeighbours : MethodName := ⟨RX1, "withNeighbours", "(I)I"⟩
abbrev cX1_capacityOut : ByteArray := prog_3_method_8_code
def yX1_capacityOut : MethodName := ⟨RX1, "capacityOut", "(I)I"⟩
def RX2 : String := "FlowNetwork$Levels"
def TX2 : u_T := fun k => match k with
  | 0 => ("FlowNetwork$Levels", "count", "I", false)
  | 1 => ("FlowNetwork$Levels", "capacity", "[[I", true)
  | 2 => ("FlowNetwork$Levels", "source", "[I", true)
  | _ => ("FlowNetwork$Levels", "sink", "[I", true)
def tyX2 : Nat → FieldType := fun k => match k with
  | 0 => .int
  | 1 => .array (.array .int)
  | 2 => .array .int
  | _ => .array .int
abbrev wsX20 : List Cond := u_ws RX2 TX2 4
theorem nmX2 : ∀ a, a < 4 → ∀ b, b < 4 → a ≠ b → (TX2 a).2.1 ≠ (TX2 b).2.1 := by decide +kernel
theorem tyX2_ok : ∀ k, k < 4 → parseFieldDescriptor (TX2 k).2.2.1 = some (tyX2 k) := by decide +kernel
abbrev cX2_init : ByteArray := prog_4_method_1_code
def yX2_init : MethodName := ⟨RX2, "<init>", "()V"⟩
def RX3 : String := "FlowNetwork$MaximumFlow"
def TX3 : u_T := fun k => match k with
  | 0 => ("FlowNetwork$MaximumFlow", "network", "LFlowNetwork$Network;", true)
  | 1 => ("FlowNetwork$MaximumFlow", "flow", "LFlowNetwork$Flow;", true)
  | 2 => ("FlowNetwork$MaximumFlow", "router", "LFlowNetwork$Router;", true)
  | 3 => ("FlowNetwork$MaximumFlow", "source", "I", false)
  | 4 => ("FlowNetwork$MaximumFlow", "sink", "I", false)
  | _ => ("FlowNetwork$MaximumFlow", "settled", "Z", false)
def tyX3 : Nat → FieldType := fun k => match k with
  | 0 => .object "FlowNetwork$Network"
  | 1 => .object "FlowNetwork$Flow"
  | 2 => .object "FlowNetwork$Router"
  | 3 => .int
  | 4 => .int
  | _ => .boolean
abbrev wsX30 : List Cond := u_ws RX3 TX3 6
theorem nmX3 : ∀ a, a < 6 → ∀ b, b < 6 → a ≠ b → (TX3 a).2.1 ≠ (TX3 b).2.1 := by decide +kernel
theorem tyX3_ok : ∀ k, k < 6 → parseFieldDescriptor (TX3 k).2.2.1 = some (tyX3 k) := by decide +kernel
abbrev cX3_init : ByteArray := prog_5_method_1_code
def yX3_init : MethodName := ⟨RX3, "<init>", "(LFlowNetwork$Network;)V"⟩
abbrev cX3_hasEnds : ByteArray := prog_5_method_2_code
def yX3_hasEnds : MethodName := ⟨RX3, "hasEnds", "()Z"⟩
abbrev cX3_copy : ByteArray := prog_5_method_3_code
def yX3_copy : MethodName := ⟨RX3, "copy", "(LFlowNetwork$MaximumFlow;)V"⟩
abbrev cX3_chooseEnds : ByteArray := prog_5_method_4_code
def yX3_chooseEnds : MethodName := ⟨RX3, "chooseEnds", "(II)Z"⟩
abbrev cX3_changeCapacity : ByteArray := prog_5_method_5_code
def yX3_changeCapacity : MethodName := ⟨RX3, "changeCapacity", "(II)V"⟩
abbrev cX3_moveAway : ByteArray := prog_5_method_6_code
def yX3_moveAway : MethodName := ⟨RX3, "moveAway", "(III)V"⟩
abbrev cX3_settle : ByteArray := prog_5_method_7_code
def yX3_settle : MethodName := ⟨RX3, "settle", "()V"⟩
abbrev cX3_greatestValue : ByteArray := prog_5_method_8_code
def yX3_greatestValue : MethodName := ⟨RX3, "greatestValue", "()I"⟩
abbrev cX3_smallestMask : ByteArray := prog_5_method_9_code
def yX3_smallestMask : MethodName := ⟨RX3, "smallestMask", "()I"⟩
abbrev cX3_greatestMask : ByteArray := prog_5_method_10_code
def yX3_greatestMask : MethodName := ⟨RX3, "greatestMask", "()I"⟩
def RX4 : String := "FlowNetwork$Network"
def TX4 : u_T := fun k => match k with
  | 0 => ("FlowNetwork$Network", "nodes", "I", false)
  | 1 => ("FlowNetwork$Network", "arcs", "I", false)
  | 2 => ("FlowNetwork$Network", "tail", "[I", true)
  | 3 => ("FlowNetwork$Network", "head", "[I", true)
  | 4 => ("FlowNetwork$Network", "degree", "[I", true)
  | _ => ("FlowNetwork$Network", "arcsAt", "[[I", true)
def tyX4 : Nat → FieldType := fun k => match k with
  | 0 => .int
  | 1 => .int
  | 2 => .array .int
  | 3 => .array .int
  | 4 => .array .int
  | _ => .array (.array .int)
abbrev wsX40 : List Cond := u_ws RX4 TX4 6
theorem nmX4 : ∀ a, a < 6 → ∀ b, b < 6 → a ≠ b → (TX4 a).2.1 ≠ (TX4 b).2.1 := by decide +kernel
theorem tyX4_ok : ∀ k, k < 6 → parseFieldDescriptor (TX4 k).2.2.1 = some (tyX4 k) := by decide +kernel
abbrev cX4_init : ByteArray := prog_6_method_1_code
def yX4_init : MethodName := ⟨RX4, "<init>", "()V"⟩
abbrev cX4_makeNode : ByteArray := prog_6_method_2_code
def yX4_makeNode : MethodName := ⟨RX4, "makeNode", "()I"⟩
abbrev cX4_makeArc : ByteArray := prog_6_method_3_code
def yX4_makeArc : MethodName := ⟨RX4, "makeArc", "(II)I"⟩
abbrev cX4_attach : ByteArray := prog_6_method_4_code
def yX4_attach : MethodName := ⟨RX4, "attach", "(II)V"⟩
abbrev cX4_otherEnd : ByteArray := prog_6_method_5_code
def yX4_otherEnd : MethodName := ⟨RX4, "otherEnd", "(II)I"⟩
abbrev cX4_allNodes : ByteArray := prog_6_method_6_code
def yX4_allNodes : MethodName := ⟨RX4, "allNodes", "()I"⟩
def RX5 : String := "FlowNetwork$Router"
def TX5 : u_T := fun k => match k with
  | 0 => ("FlowNetwork$Router", "network", "LFlowNetwork$Network;", true)
  | 1 => ("FlowNetwork$Router", "flow", "LFlowNetwork$Flow;", true)
  | 2 => ("FlowNetwork$Router", "excess", "[I", true)
  | 3 => ("FlowNetwork$Router", "height", "[I", true)
  | 4 => ("FlowNetwork$Router", "queue", "[I", true)
  | 5 => ("FlowNetwork$Router", "start", "I", false)
  | _ => ("FlowNetwork$Router", "goal", "I", false)
def tyX5 : Nat → FieldType := fun k => match k with
  | 0 => .object "FlowNetwork$Network"
  | 1 => .object "FlowNetwork$Flow"
  | 2 => .array .int
  | 3 => .array .int
  | 4 => .array .int
  | 5 => .int
  | _ => .int
abbrev wsX50 : List Cond := u_ws RX5 TX5 7
theorem nmX5 : ∀ a, a < 7 → ∀ b, b < 7 → a ≠ b → (TX5 a).2.1 ≠ (TX5 b).2.1 := by decide +kernel
theorem tyX5_ok : ∀ k, k < 7 → parseFieldDescriptor (TX5 k).2.2.1 = some (tyX5 k) := by decide +kernel
abbrev cX5_init : ByteArray := prog_7_method_1_code
def yX5_init : MethodName := ⟨RX5, "<init>", "(LFlowNetwork$Network;LFlowNetwork$Flow;)V"⟩
abbrev cX5_route : ByteArray := prog_7_method_2_code
def yX5_route : MethodName := ⟨RX5, "route", "(III)I"⟩
abbrev cX5_setHeights : ByteArray := prog_7_method_3_code
def yX5_setHeights : MethodName := ⟨RX5, "setHeights", "()V"⟩
abbrev cX5_findBehind : ByteArray := prog_7_method_4_code
def yX5_findBehind : MethodName := ⟨RX5, "findBehind", "(II)I"⟩
abbrev cX5_sweepOnce : ByteArray := prog_7_method_5_code
def yX5_sweepOnce : MethodName := ⟨RX5, "sweepOnce", "()Z"⟩
abbrev cX5_isActive : ByteArray := prog_7_method_6_code
def yX5_isActive : MethodName := ⟨RX5, "isActive", "(I)Z"⟩
abbrev cX5_pushOut : ByteArray := prog_7_method_7_code
def yX5_pushOut : MethodName := ⟨RX5, "pushOut", "(I)V"⟩
abbrev cX5_lift : ByteArray := prog_7_method_8_code
def yX5_lift : MethodName := ⟨RX5, "lift", "(I)V"⟩
def RX6 : String := "FlowNetwork"
def TX6 : u_T := fun k => match k with
  | 0 => ("FlowNetwork", "network", "LFlowNetwork$Network;", true)
  | 1 => ("FlowNetwork", "current", "LFlowNetwork$MaximumFlow;", true)
  | 2 => ("FlowNetwork", "trial", "LFlowNetwork$MaximumFlow;", true)
  | 3 => ("FlowNetwork", "levels", "LFlowNetwork$Levels;", true)
  | _ => ("FlowNetwork", "cuts", "LFlowNetwork$Cuts;", true)
def tyX6 : Nat → FieldType := fun k => match k with
  | 0 => .object "FlowNetwork$Network"
  | 1 => .object "FlowNetwork$MaximumFlow"
  | 2 => .object "FlowNetwork$MaximumFlow"
  | 3 => .object "FlowNetwork$Levels"
  | _ => .object "FlowNetwork$Cuts"
abbrev wsX60 : List Cond := u_ws RX6 TX6 5
theorem nmX6 : ∀ a, a < 5 → ∀ b, b < 5 → a ≠ b → (TX6 a).2.1 ≠ (TX6 b).2.1 := by decide +kernel
theorem tyX6_ok : ∀ k, k < 5 → parseFieldDescriptor (TX6 k).2.2.1 = some (tyX6 k) := by decide +kernel
abbrev cX6_init : ByteArray := prog_1_method_1_code
def yX6_init : MethodName := ⟨RX6, "<init>", "()V"⟩
abbrev cX6_addNode : ByteArray := prog_1_method_2_code
def yX6_addNode : MethodName := ⟨RX6, "addNode", "()I"⟩
abbrev cX6_addArc : ByteArray := prog_1_method_3_code
def yX6_addArc : MethodName := ⟨RX6, "addArc", "(III)I"⟩
abbrev cX6_setCapacity : ByteArray := prog_1_method_4_code
def yX6_setCapacity : MethodName := ⟨RX6, "setCapacity", "(II)I"⟩
abbrev cX6_scale : ByteArray := prog_1_method_5_code
def yX6_scale : MethodName := ⟨RX6, "scale", "(ID)I"⟩
abbrev cX6_setEnds : ByteArray := prog_1_method_6_code
def yX6_setEnds : MethodName := ⟨RX6, "setEnds", "(II)Z"⟩
abbrev cX6_maximum : ByteArray := prog_1_method_10_code
def yX6_maximum : MethodName := ⟨RX6, "maximum", "()I"⟩
abbrev cX6_maximumWith : ByteArray := prog_1_method_11_code
def yX6_maximumWith : MethodName := ⟨RX6, "maximumWith", "(II)I"⟩
abbrev cX6_maximumBetween : ByteArray := prog_1_method_13_code
def yX6_maximumBetween : MethodName := ⟨RX6, "maximumBetween", "(II)I"⟩
abbrev cX6_leastFlow : ByteArray := prog_1_method_15_code
def yX6_leastFlow : MethodName := ⟨RX6, "leastFlow", "(I)I"⟩
abbrev cX6_greatestFlow : ByteArray := prog_1_method_16_code
def yX6_greatestFlow : MethodName := ⟨RX6, "greatestFlow", "(I)I"⟩
abbrev cX6_cutCapacity : ByteArray := prog_1_method_17_code
def yX6_cutCapacity : MethodName := ⟨RX6, "cutCapacity", "(I)I"⟩
abbrev cX6_smallestCut : ByteArray := prog_1_method_18_code
def yX6_smallestCut : MethodName := ⟨RX6, "smallestCut", "()I"⟩
abbrev cX6_greatestCut : ByteArray := prog_1_method_19_code
def yX6_greatestCut : MethodName := ⟨RX6, "greatestCut", "()I"⟩
abbrev cX6_requireEnds : ByteArray := prog_1_method_28_code
def yX6_requireEnds : MethodName := ⟨RX6, "requireEnds", "()V"⟩
abbrev cX6_requireNode : ByteArray := prog_1_method_29_code
def yX6_requireNode : MethodName := ⟨RX6, "requireNode", "(I)V"⟩
abbrev cX6_requireArc : ByteArray := prog_1_method_30_code
def yX6_requireArc : MethodName := ⟨RX6, "requireArc", "(I)V"⟩
abbrev cX6_requireDifferent : ByteArray := prog_1_method_31_code
def yX6_requireDifferent : MethodName := ⟨RX6, "requireDifferent", "(II)V"⟩
abbrev cX6_requireCapacity : ByteArray := prog_1_method_32_code
def yX6_requireCapacity : MethodName := ⟨RX6, "requireCapacity", "(I)V"⟩
abbrev cX6_requireFraction : ByteArray := prog_1_method_33_code
def yX6_requireFraction : MethodName := ⟨RX6, "requireFraction", "(D)V"⟩
abbrev cX6_isCut : ByteArray := prog_1_method_34_code
def yX6_isCut : MethodName := ⟨RX6, "isCut", "(I)Z"⟩
abbrev cX6_movable : ByteArray := prog_1_method_35_code
def yX6_movable : MethodName := ⟨RX6, "movable", "(III)I"⟩
abbrev cX6_scaled : ByteArray := prog_1_method_36_code
def yX6_scaled : MethodName := ⟨RX6, "scaled", "(ID)I"⟩
abbrev cX6_contains : ByteArray := prog_1_method_37_code
def yX6_contains : MethodName := ⟨RX6, "contains", "(II)Z"⟩
def RX7 : String := "FlowNetworkModel"
def TX7 : u_T := fun k => match k with
  | _ => ("", "", "", false)
def tyX7 : Nat → FieldType := fun k => match k with
  | _ => .int
abbrev wsX70 : List Cond := u_ws RX7 TX7 0
theorem nmX7 : ∀ a, a < 0 → ∀ b, b < 0 → a ≠ b → (TX7 a).2.1 ≠ (TX7 b).2.1 := by decide +kernel
theorem tyX7_ok : ∀ k, k < 0 → parseFieldDescriptor (TX7 k).2.2.1 = some (tyX7 k) := by decide +kernel
def RJx145de : String := "java/io/Serializable"
def TJx145de : u_T := fun k => match k with
  | _ => ("", "", "", false)
def tyJx145de : Nat → FieldType := fun k => match k with
  | _ => .int
abbrev wsJx145de0 : List Cond := u_ws RJx145de TJx145de 0
theorem nmJx145de : ∀ a, a < 0 → ∀ b, b < 0 → a ≠ b → (TJx145de a).2.1 ≠ (TJx145de b).2.1 := by decide +kernel
theorem tyJx145de_ok : ∀ k, k < 0 → parseFieldDescriptor (TJx145de k).2.2.1 = some (tyJx145de k) := by decide +kernel
def RJ9 : String := "java/lang/Math"
def TJ9 : u_T := fun k => match k with
  | _ => ("", "", "", false)
def tyJ9 : Nat → FieldType := fun k => match k with
  | _ => .int
abbrev wsJ90 : List Cond := u_ws RJ9 TJ9 0
theorem nmJ9 : ∀ a, a < 0 → ∀ b, b < 0 → a ≠ b → (TJ9 a).2.1 ≠ (TJ9 b).2.1 := by decide +kernel
theorem tyJ9_ok : ∀ k, k < 0 → parseFieldDescriptor (TJ9 k).2.2.1 = some (tyJ9 k) := by decide +kernel
abbrev cJ9_min_7cf53 : ByteArray := prog_14_method_69_code
def yJ9_min_7cf53 : MethodName := ⟨RJ9, "min", "(II)I"⟩
def RJ0 : String := "java/lang/String"
def TJ0 : u_T := fun k => match k with
  | _ => ("", "", "", false)
def tyJ0 : Nat → FieldType := fun k => match k with
  | _ => .int
abbrev wsJ00 : List Cond := u_ws RJ0 TJ0 0
theorem nmJ0 : ∀ a, a < 0 → ∀ b, b < 0 → a ≠ b → (TJ0 a).2.1 ≠ (TJ0 b).2.1 := by decide +kernel
theorem tyJ0_ok : ∀ k, k < 0 → parseFieldDescriptor (TJ0 k).2.2.1 = some (tyJ0 k) := by decide +kernel
def RJ10 : String := "java/lang/System"
def TJ10 : u_T := fun k => match k with
  | _ => ("", "", "", false)
def tyJ10 : Nat → FieldType := fun k => match k with
  | _ => .int
abbrev wsJ100 : List Cond := u_ws RJ10 TJ10 0
theorem nmJ10 : ∀ a, a < 0 → ∀ b, b < 0 → a ≠ b → (TJ10 a).2.1 ≠ (TJ10 b).2.1 := by decide +kernel
theorem tyJ10_ok : ∀ k, k < 0 → parseFieldDescriptor (TJ10 k).2.2.1 = some (tyJ10 k) := by decide +kernel
def RJ7 : String := "java/util/Arrays"
def TJ7 : u_T := fun k => match k with
  | _ => ("", "", "", false)
def tyJ7 : Nat → FieldType := fun k => match k with
  | _ => .int
abbrev wsJ70 : List Cond := u_ws RJ7 TJ7 0
theorem nmJ7 : ∀ a, a < 0 → ∀ b, b < 0 → a ≠ b → (TJ7 a).2.1 ≠ (TJ7 b).2.1 := by decide +kernel
theorem tyJ7_ok : ∀ k, k < 0 → parseFieldDescriptor (TJ7 k).2.2.1 = some (tyJ7 k) := by decide +kernel
abbrev cJ7_fill_53178 : ByteArray := prog_19_method_103_code
def yJ7_fill_53178 : MethodName := ⟨RJ7, "fill", "([II)V"⟩
def RL : String := "FlowNetworkLaw"
abbrev cL_below : ByteArray := method_2_code
def yL_below : MethodName := ⟨RL, "below", "(II)I"⟩
abbrev cL_cell : ByteArray := method_3_code
def yL_cell : MethodName := ⟨RL, "cell", "([II)I"⟩
abbrev cL_build : ByteArray := method_4_code
def yL_build : MethodName := ⟨RL, "build", "(LFlowNetwork;[III[I[I[II)Z"⟩
abbrev cL_cutCapacity : ByteArray := method_5_code
def yL_cutCapacity : MethodName := ⟨RL, "cutCapacity", "(I[I[I[I)I"⟩
abbrev cL_law : ByteArray := code
def yL_law : MethodName := ⟨RL, "law", "([I)Z"⟩
theorem dX0_init_0 : decode cX0_init 0 = .ok (.aload_n 0, 1) := by decide +kernel
theorem dX0_init_1 : decode cX0_init 1 = .ok (.invokespecial 3, 3) := by decide +kernel
theorem dX0_init_4 : decode cX0_init 4 = .ok (.aload_n 0, 1) := by decide +kernel
theorem dX0_init_5 : decode cX0_init 5 = .ok (.sipush 300, 3) := by decide +kernel
theorem dX0_init_8 : decode cX0_init 8 = .ok (.newarray .int, 2) := by decide +kernel
theorem dX0_init_10 : decode cX0_init 10 = .ok (.putfield 9, 3) := by decide +kernel
theorem dX0_init_13 : decode cX0_init 13 = .ok (.aload_n 0, 1) := by decide +kernel
theorem dX0_init_14 : decode cX0_init 14 = .ok (.bipush 24, 2) := by decide +kernel
theorem dX0_init_16 : decode cX0_init 16 = .ok (.newarray .int, 2) := by decide +kernel
theorem dX0_init_18 : decode cX0_init 18 = .ok (.putfield 15, 3) := by decide +kernel
theorem dX0_init_21 : decode cX0_init 21 = .ok (.return_, 1) := by decide +kernel
theorem dX1_init_0 : decode cX1_init 0 = .ok (.aload_n 0, 1) := by decide +kernel
theorem dX1_init_1 : decode cX1_init 1 = .ok (.invokespecial 3, 3) := by decide +kernel
theorem dX1_init_4 : decode cX1_init 4 = .ok (.aload_n 0, 1) := by decide +kernel
theorem dX1_init_5 : decode cX1_init 5 = .ok (.bipush 80, 2) := by decide +kernel
theorem dX1_init_7 : decode cX1_init 7 = .ok (.newarray .int, 2) := by decide +kernel
theorem dX1_init_9 : decode cX1_init 9 = .ok (.putfield 9, 3) := by decide +kernel
theorem dX1_init_12 : decode cX1_init 12 = .ok (.aload_n 0, 1) := by decide +kernel
theorem dX1_init_13 : decode cX1_init 13 = .ok (.bipush 80, 2) := by decide +kernel
theorem dX1_init_15 : decode cX1_init 15 = .ok (.newarray .int, 2) := by decide +kernel
theorem dX1_init_17 : decode cX1_init 17 = .ok (.putfield 15, 3) := by decide +kernel
theorem dX1_init_20 : decode cX1_init 20 = .ok (.aload_n 0, 1) := by decide +kernel
theorem dX1_init_21 : decode cX1_init 21 = .ok (.aload_n 1, 1) := by decide +kernel
theorem dX1_init_22 : decode cX1_init 22 = .ok (.putfield 18, 3) := by decide +kernel
theorem dX1_init_25 : decode cX1_init 25 = .ok (.return_, 1) := by decide +kernel
theorem dX1_copy_0 : decode cX1_copy 0 = .ok (.aload_n 1, 1) := by decide +kernel
theorem dX1_copy_1 : decode cX1_copy 1 = .ok (.getfield 9, 3) := by decide +kernel
theorem dX1_copy_4 : decode cX1_copy 4 = .ok (.iconst 0, 1) := by decide +kernel
theorem dX1_copy_5 : decode cX1_copy 5 = .ok (.aload_n 0, 1) := by decide +kernel
theorem dX1_copy_6 : decode cX1_copy 6 = .ok (.getfield 9, 3) := by decide +kernel
theorem dX1_copy_9 : decode cX1_copy 9 = .ok (.iconst 0, 1) := by decide +kernel
theorem dX1_copy_10 : decode cX1_copy 10 = .ok (.bipush 80, 2) := by decide +kernel
theorem dX1_copy_12 : decode cX1_copy 12 = .ok (.invokestatic 22, 3) := by decide +kernel
theorem dX1_copy_15 : decode cX1_copy 15 = .ok (.aload_n 1, 1) := by decide +kernel
theorem dX1_copy_16 : decode cX1_copy 16 = .ok (.getfield 15, 3) := by decide +kernel
theorem dX1_copy_19 : decode cX1_copy 19 = .ok (.iconst 0, 1) := by decide +kernel
theorem dX1_copy_20 : decode cX1_copy 20 = .ok (.aload_n 0, 1) := by decide +kernel
theorem dX1_copy_21 : decode cX1_copy 21 = .ok (.getfield 15, 3) := by decide +kernel
theorem dX1_copy_24 : decode cX1_copy 24 = .ok (.iconst 0, 1) := by decide +kernel
theorem dX1_copy_25 : decode cX1_copy 25 = .ok (.bipush 80, 2) := by decide +kernel
theorem dX1_copy_27 : decode cX1_copy 27 = .ok (.invokestatic 22, 3) := by decide +kernel
theorem dX1_copy_30 : decode cX1_copy 30 = .ok (.return_, 1) := by decide +kernel
theorem dX1_block_0 : decode cX1_block 0 = .ok (.aload_n 0, 1) := by decide +kernel
theorem dX1_block_1 : decode cX1_block 1 = .ok (.getfield 9, 3) := by decide +kernel
theorem dX1_block_4 : decode cX1_block 4 = .ok (.iload_n 1, 1) := by decide +kernel
theorem dX1_block_5 : decode cX1_block 5 = .ok (.iconst 0, 1) := by decide +kernel
theorem dX1_block_6 : decode cX1_block 6 = .ok (.iastore, 1) := by decide +kernel
theorem dX1_block_7 : decode cX1_block 7 = .ok (.aload_n 0, 1) := by decide +kernel
theorem dX1_block_8 : decode cX1_block 8 = .ok (.getfield 15, 3) := by decide +kernel
theorem dX1_block_11 : decode cX1_block 11 = .ok (.iload_n 1, 1) := by decide +kernel
theorem dX1_block_12 : decode cX1_block 12 = .ok (.iconst 0, 1) := by decide +kernel
theorem dX1_block_13 : decode cX1_block 13 = .ok (.iastore, 1) := by decide +kernel
theorem dX1_block_14 : decode cX1_block 14 = .ok (.return_, 1) := by decide +kernel
theorem dX1_room_0 : decode cX1_room 0 = .ok (.aload_n 0, 1) := by decide +kernel
theorem dX1_room_1 : decode cX1_room 1 = .ok (.getfield 18, 3) := by decide +kernel
theorem dX1_room_4 : decode cX1_room 4 = .ok (.getfield 28, 3) := by decide +kernel
theorem dX1_room_7 : decode cX1_room 7 = .ok (.iload_n 1, 1) := by decide +kernel
theorem dX1_room_8 : decode cX1_room 8 = .ok (.iaload, 1) := by decide +kernel
theorem dX1_room_9 : decode cX1_room 9 = .ok (.iload_n 2, 1) := by decide +kernel
theorem dX1_room_10 : decode cX1_room 10 = .ok (.if_icmp .ne 19, 3) := by decide +kernel
theorem dX1_room_13 : decode cX1_room 13 = .ok (.aload_n 0, 1) := by decide +kernel
theorem dX1_room_14 : decode cX1_room 14 = .ok (.getfield 9, 3) := by decide +kernel
theorem dX1_room_17 : decode cX1_room 17 = .ok (.iload_n 1, 1) := by decide +kernel
theorem dX1_room_18 : decode cX1_room 18 = .ok (.iaload, 1) := by decide +kernel
theorem dX1_room_19 : decode cX1_room 19 = .ok (.aload_n 0, 1) := by decide +kernel
theorem dX1_room_20 : decode cX1_room 20 = .ok (.getfield 15, 3) := by decide +kernel
theorem dX1_room_23 : decode cX1_room 23 = .ok (.iload_n 1, 1) := by decide +kernel
theorem dX1_room_24 : decode cX1_room 24 = .ok (.iaload, 1) := by decide +kernel
theorem dX1_room_25 : decode cX1_room 25 = .ok (.isub, 1) := by decide +kernel
theorem dX1_room_26 : decode cX1_room 26 = .ok (.goto 9, 3) := by decide +kernel
theorem dX1_room_29 : decode cX1_room 29 = .ok (.aload_n 0, 1) := by decide +kernel
theorem dX1_room_30 : decode cX1_room 30 = .ok (.getfield 15, 3) := by decide +kernel
theorem dX1_room_33 : decode cX1_room 33 = .ok (.iload_n 1, 1) := by decide +kernel
theorem dX1_room_34 : decode cX1_room 34 = .ok (.iaload, 1) := by decide +kernel
theorem dX1_room_35 : decode cX1_room 35 = .ok (.ireturn, 1) := by decide +kernel
theorem dX1_send_0 : decode cX1_send 0 = .ok (.aload_n 0, 1) := by decide +kernel
theorem dX1_send_1 : decode cX1_send 1 = .ok (.getfield 15, 3) := by decide +kernel
theorem dX1_send_4 : decode cX1_send 4 = .ok (.iload_n 1, 1) := by decide +kernel
theorem dX1_send_5 : decode cX1_send 5 = .ok (.dup2, 1) := by decide +kernel
theorem dX1_send_6 : decode cX1_send 6 = .ok (.iaload, 1) := by decide +kernel
theorem dX1_send_7 : decode cX1_send 7 = .ok (.aload_n 0, 1) := by decide +kernel
theorem dX1_send_8 : decode cX1_send 8 = .ok (.getfield 18, 3) := by decide +kernel
theorem dX1_send_11 : decode cX1_send 11 = .ok (.getfield 28, 3) := by decide +kernel
theorem dX1_send_14 : decode cX1_send 14 = .ok (.iload_n 1, 1) := by decide +kernel
theorem dX1_send_15 : decode cX1_send 15 = .ok (.iaload, 1) := by decide +kernel
theorem dX1_send_16 : decode cX1_send 16 = .ok (.iload_n 2, 1) := by decide +kernel
theorem dX1_send_17 : decode cX1_send 17 = .ok (.if_icmp .ne 7, 3) := by decide +kernel
theorem dX1_send_20 : decode cX1_send 20 = .ok (.iload_n 3, 1) := by decide +kernel
theorem dX1_send_21 : decode cX1_send 21 = .ok (.goto 5, 3) := by decide +kernel
theorem dX1_send_24 : decode cX1_send 24 = .ok (.iload_n 3, 1) := by decide +kernel
theorem dX1_send_25 : decode cX1_send 25 = .ok (.ineg, 1) := by decide +kernel
theorem dX1_send_26 : decode cX1_send 26 = .ok (.iadd, 1) := by decide +kernel
theorem dX1_send_27 : decode cX1_send 27 = .ok (.iastore, 1) := by decide +kernel
theorem dX1_send_28 : decode cX1_send 28 = .ok (.return_, 1) := by decide +kernel
theorem dX1_reachableFrom_0 : decode cX1_reachableFrom 0 = .ok (.iconst 1, 1) := by decide +kernel
theorem dX1_reachableFrom_1 : decode cX1_reachableFrom 1 = .ok (.iload_n 1, 1) := by decide +kernel
theorem dX1_reachableFrom_2 : decode cX1_reachableFrom 2 = .ok (.ishl, 1) := by decide +kernel
theorem dX1_reachableFrom_3 : decode cX1_reachableFrom 3 = .ok (.istore_n 2, 1) := by decide +kernel
theorem dX1_reachableFrom_4 : decode cX1_reachableFrom 4 = .ok (.iconst 0, 1) := by decide +kernel
theorem dX1_reachableFrom_5 : decode cX1_reachableFrom 5 = .ok (.istore_n 3, 1) := by decide +kernel
theorem dX1_reachableFrom_6 : decode cX1_reachableFrom 6 = .ok (.iconst 0, 1) := by decide +kernel
theorem dX1_reachableFrom_7 : decode cX1_reachableFrom 7 = .ok (.istore 4, 2) := by decide +kernel
theorem dX1_reachableFrom_9 : decode cX1_reachableFrom 9 = .ok (.iload 4, 2) := by decide +kernel
theorem dX1_reachableFrom_11 : decode cX1_reachableFrom 11 = .ok (.aload_n 0, 1) := by decide +kernel
theorem dX1_reachableFrom_12 : decode cX1_reachableFrom 12 = .ok (.getfield 18, 3) := by decide +kernel
theorem dX1_reachableFrom_15 : decode cX1_reachableFrom 15 = .ok (.getfield 33, 3) := by decide +kernel
theorem dX1_reachableFrom_18 : decode cX1_reachableFrom 18 = .ok (.if_icmp .ge 22, 3) := by decide +kernel
theorem dX1_reachableFrom_21 : decode cX1_reachableFrom 21 = .ok (.iload_n 2, 1) := by decide +kernel
theorem dX1_reachableFrom_22 : decode cX1_reachableFrom 22 = .ok (.iload_n 3, 1) := by decide +kernel
theorem dX1_reachableFrom_23 : decode cX1_reachableFrom 23 = .ok (.if_icmp .eq 17, 3) := by decide +kernel
theorem dX1_reachableFrom_26 : decode cX1_reachableFrom 26 = .ok (.iload_n 2, 1) := by decide +kernel
theorem dX1_reachableFrom_27 : decode cX1_reachableFrom 27 = .ok (.istore_n 3, 1) := by decide +kernel
theorem dX1_reachableFrom_28 : decode cX1_reachableFrom 28 = .ok (.aload_n 0, 1) := by decide +kernel
theorem dX1_reachableFrom_29 : decode cX1_reachableFrom 29 = .ok (.iload_n 2, 1) := by decide +kernel
theorem dX1_reachableFrom_30 : decode cX1_reachableFrom 30 = .ok (.invokevirtual 37, 3) := by decide +kernel
theorem dX1_reachableFrom_33 : decode cX1_reachableFrom 33 = .ok (.istore_n 2, 1) := by decide +kernel
theorem dX1_reachableFrom_34 : decode cX1_reachableFrom 34 = .ok (.iinc 4 1, 3) := by decide +kernel
theorem dX1_reachableFrom_37 : decode cX1_reachableFrom 37 = .ok (.goto (-28), 3) := by decide +kernel
theorem dX1_reachableFrom_40 : decode cX1_reachableFrom 40 = .ok (.iload_n 2, 1) := by decide +kernel
theorem dX1_reachableFrom_41 : decode cX1_reachableFrom 41 = .ok (.ireturn, 1) := by decide +kernel
theorem dX1_withNeighbours_0 : decode cX1_withNeighbours 0 = .ok (.iload_n 1, 1) := by decide +kernel
theorem dX1_withNeighbours_1 : decode cX1_withNeighbours 1 = .ok (.istore_n 2, 1) := by decide +kernel
theorem dX1_withNeighbours_2 : decode cX1_withNeighbours 2 = .ok (.iconst 0, 1) := by decide +kernel
theorem dX1_withNeighbours_3 : decode cX1_withNeighbours 3 = .ok (.istore_n 3, 1) := by decide +kernel
theorem dX1_withNeighbours_4 : decode cX1_withNeighbours 4 = .ok (.iload_n 3, 1) := by decide +kernel
theorem dX1_withNeighbours_5 : decode cX1_withNeighbours 5 = .ok (.aload_n 0, 1) := by decide +kernel
theorem dX1_withNeighbours_6 : decode cX1_withNeighbours 6 = .ok (.getfield 18, 3) := by decide +kernel
theorem dX1_withNeighbours_9 : decode cX1_withNeighbours 9 = .ok (.getfield 41, 3) := by decide +kernel
theorem dX1_withNeighbours_12 : decode cX1_withNeighbours 12 = .ok (.if_icmp .ge 83, 3) := by decide +kernel
theorem dX1_withNeighbours_15 : decode cX1_withNeighbours 15 = .ok (.aload_n 0, 1) := by decide +kernel
theorem dX1_withNeighbours_16 : decode cX1_withNeighbours 16 = .ok (.getfield 18, 3) := by decide +kernel
theorem dX1_withNeighbours_19 : decode cX1_withNeighbours 19 = .ok (.getfield 28, 3) := by decide +kernel
theorem dX1_withNeighbours_22 : decode cX1_withNeighbours 22 = .ok (.iload_n 3, 1) := by decide +kernel
theorem dX1_withNeighbours_23 : decode cX1_withNeighbours 23 = .ok (.iaload, 1) := by decide +kernel
theorem dX1_withNeighbours_24 : decode cX1_withNeighbours 24 = .ok (.istore 4, 2) := by decide +kernel
theorem dX1_withNeighbours_26 : decode cX1_withNeighbours 26 = .ok (.aload_n 0, 1) := by decide +kernel
theorem dX1_withNeighbours_27 : decode cX1_withNeighbours 27 = .ok (.getfield 18, 3) := by decide +kernel
theorem dX1_withNeighbours_30 : decode cX1_withNeighbours 30 = .ok (.getfield 44, 3) := by decide +kernel
theorem dX1_withNeighbours_33 : decode cX1_withNeighbours 33 = .ok (.iload_n 3, 1) := by decide +kernel
theorem dX1_withNeighbours_34 : decode cX1_withNeighbours 34 = .ok (.iaload, 1) := by decide +kernel
theorem dX1_withNeighbours_35 : decode cX1_withNeighbours 35 = .ok (.istore 5, 2) := by decide +kernel
theorem dX1_withNeighbours_37 : decode cX1_withNeighbours 37 = .ok (.iload_n 2, 1) := by decide +kernel
theorem dX1_withNeighbours_38 : decode cX1_withNeighbours 38 = .ok (.iload 4, 2) := by decide +kernel
theorem dX1_withNeighbours_40 : decode cX1_withNeighbours 40 = .ok (.invokestatic 47, 3) := by decide +kernel
theorem dX1_withNeighbours_43 : decode cX1_withNeighbours 43 = .ok (.ifCond .eq 20, 3) := by decide +kernel
theorem dX1_withNeighbours_46 : decode cX1_withNeighbours 46 = .ok (.aload_n 0, 1) := by decide +kernel
theorem dX1_withNeighbours_47 : decode cX1_withNeighbours 47 = .ok (.iload_n 3, 1) := by decide +kernel
theorem dX1_withNeighbours_48 : decode cX1_withNeighbours 48 = .ok (.iload 4, 2) := by decide +kernel
theorem dX1_withNeighbours_50 : decode cX1_withNeighbours 50 = .ok (.invokevirtual 51, 3) := by decide +kernel
theorem dX1_withNeighbours_53 : decode cX1_withNeighbours 53 = .ok (.ifCond .le 10, 3) := by decide +kernel
theorem dX1_withNeighbours_56 : decode cX1_withNeighbours 56 = .ok (.iload_n 2, 1) := by decide +kernel
theorem dX1_withNeighbours_57 : decode cX1_withNeighbours 57 = .ok (.iconst 1, 1) := by decide +kernel
theorem dX1_withNeighbours_58 : decode cX1_withNeighbours 58 = .ok (.iload 5, 2) := by decide +kernel
theorem dX1_withNeighbours_60 : decode cX1_withNeighbours 60 = .ok (.ishl, 1) := by decide +kernel
theorem dX1_withNeighbours_61 : decode cX1_withNeighbours 61 = .ok (.ior, 1) := by decide +kernel
theorem dX1_withNeighbours_62 : decode cX1_withNeighbours 62 = .ok (.istore_n 2, 1) := by decide +kernel
theorem dX1_withNeighbours_63 : decode cX1_withNeighbours 63 = .ok (.iload_n 2, 1) := by decide +kernel
theorem dX1_withNeighbours_64 : decode cX1_withNeighbours 64 = .ok (.iload 5, 2) := by decide +kernel
theorem dX1_withNeighbours_66 : decode cX1_withNeighbours 66 = .ok (.invokestatic 47, 3) := by decide +kernel
theorem dX1_withNeighbours_69 : decode cX1_withNeighbours 69 = .ok (.ifCond .eq 20, 3) := by decide +kernel
theorem dX1_withNeighbours_72 : decode cX1_withNeighbours 72 = .ok (.aload_n 0, 1) := by decide +kernel
theorem dX1_withNeighbours_73 : decode cX1_withNeighbours 73 = .ok (.iload_n 3, 1) := by decide +kernel
theorem dX1_withNeighbours_74 : decode cX1_withNeighbours 74 = .ok (.iload 5, 2) := by decide +kernel
theorem dX1_withNeighbours_76 : decode cX1_withNeighbours 76 = .ok (.invokevirtual 51, 3) := by decide +kernel
theorem dX1_withNeighbours_79 : decode cX1_withNeighbours 79 = .ok (.ifCond .le 10, 3) := by decide +kernel
theorem dX1_withNeighbours_82 : decode cX1_withNeighbours 82 = .ok (.iload_n 2, 1) := by decide +kernel
theorem dX1_withNeighbours_83 : decode cX1_withNeighbours 83 = .ok (.iconst 1, 1) := by decide +kernel
theorem dX1_withNeighbours_84 : decode cX1_withNeighbours 84 = .ok (.iload 4, 2) := by decide +kernel
theorem dX1_withNeighbours_86 : decode cX1_withNeighbours 86 = .ok (.ishl, 1) := by decide +kernel
theorem dX1_withNeighbours_87 : decode cX1_withNeighbours 87 = .ok (.ior, 1) := by decide +kernel
theorem dX1_withNeighbours_88 : decode cX1_withNeighbours 88 = .ok (.istore_n 2, 1) := by decide +kernel
theorem dX1_withNeighbours_89 : decode cX1_withNeighbours 89 = .ok (.iinc 3 1, 3) := by decide +kernel
theorem dX1_withNeighbours_92 : decode cX1_withNeighbours 92 = .ok (.goto (-88), 3) := by decide +kernel
theorem dX1_withNeighbours_95 : decode cX1_withNeighbours 95 = .ok (.iload_n 2, 1) := by decide +kernel
theorem dX1_withNeighbours_96 : decode cX1_withNeighbours 96 = .ok (.ireturn, 1) := by decide +kernel
theorem dX1_capacityOut_0 : decode cX1_capacityOut 0 = .ok (.iconst 0, 1) := by decide +kernel
theorem dX1_capacityOut_1 : decode cX1_capacityOut 1 = .ok (.istore_n 2, 1) := by decide +kernel
theorem dX1_capacityOut_2 : decode cX1_capacityOut 2 = .ok (.iconst 0, 1) := by decide +kernel
theorem dX1_capacityOut_3 : decode cX1_capacityOut 3 = .ok (.istore_n 3, 1) := by decide +kernel
theorem dX1_capacityOut_4 : decode cX1_capacityOut 4 = .ok (.iload_n 3, 1) := by decide +kernel
theorem dX1_capacityOut_5 : decode cX1_capacityOut 5 = .ok (.aload_n 0, 1) := by decide +kernel
theorem dX1_capacityOut_6 : decode cX1_capacityOut 6 = .ok (.getfield 18, 3) := by decide +kernel
theorem dX1_capacityOut_9 : decode cX1_capacityOut 9 = .ok (.getfield 41, 3) := by decide +kernel
theorem dX1_capacityOut_12 : decode cX1_capacityOut 12 = .ok (.if_icmp .ge 50, 3) := by decide +kernel
theorem dX1_capacityOut_15 : decode cX1_capacityOut 15 = .ok (.iload_n 1, 1) := by decide +kernel
theorem dX1_capacityOut_16 : decode cX1_capacityOut 16 = .ok (.aload_n 0, 1) := by decide +kernel
theorem dX1_capacityOut_17 : decode cX1_capacityOut 17 = .ok (.getfield 18, 3) := by decide +kernel
theorem dX1_capacityOut_20 : decode cX1_capacityOut 20 = .ok (.getfield 28, 3) := by decide +kernel
theorem dX1_capacityOut_23 : decode cX1_capacityOut 23 = .ok (.iload_n 3, 1) := by decide +kernel
theorem dX1_capacityOut_24 : decode cX1_capacityOut 24 = .ok (.iaload, 1) := by decide +kernel
theorem dX1_capacityOut_25 : decode cX1_capacityOut 25 = .ok (.invokestatic 47, 3) := by decide +kernel
theorem dX1_capacityOut_28 : decode cX1_capacityOut 28 = .ok (.ifCond .eq 28, 3) := by decide +kernel
theorem dX1_capacityOut_31 : decode cX1_capacityOut 31 = .ok (.iload_n 1, 1) := by decide +kernel
theorem dX1_capacityOut_32 : decode cX1_capacityOut 32 = .ok (.aload_n 0, 1) := by decide +kernel
theorem dX1_capacityOut_33 : decode cX1_capacityOut 33 = .ok (.getfield 18, 3) := by decide +kernel
theorem dX1_capacityOut_36 : decode cX1_capacityOut 36 = .ok (.getfield 44, 3) := by decide +kernel
theorem dX1_capacityOut_39 : decode cX1_capacityOut 39 = .ok (.iload_n 3, 1) := by decide +kernel
theorem dX1_capacityOut_40 : decode cX1_capacityOut 40 = .ok (.iaload, 1) := by decide +kernel
theorem dX1_capacityOut_41 : decode cX1_capacityOut 41 = .ok (.invokestatic 47, 3) := by decide +kernel
theorem dX1_capacityOut_44 : decode cX1_capacityOut 44 = .ok (.ifCond .ne 12, 3) := by decide +kernel
theorem dX1_capacityOut_47 : decode cX1_capacityOut 47 = .ok (.iload_n 2, 1) := by decide +kernel
theorem dX1_capacityOut_48 : decode cX1_capacityOut 48 = .ok (.aload_n 0, 1) := by decide +kernel
theorem dX1_capacityOut_49 : decode cX1_capacityOut 49 = .ok (.getfield 9, 3) := by decide +kernel
theorem dX1_capacityOut_52 : decode cX1_capacityOut 52 = .ok (.iload_n 3, 1) := by decide +kernel
theorem dX1_capacityOut_53 : decode cX1_capacityOut 53 = .ok (.iaload, 1) := by decide +kernel
theorem dX1_capacityOut_54 : decode cX1_capacityOut 54 = .ok (.iadd, 1) := by decide +kernel
theorem dX1_capacityOut_55 : decode cX1_capacityOut 55 = .ok (.istore_n 2, 1) := by decide +kernel
theorem dX1_capacityOut_56 : decode cX1_capacityOut 56 = .ok (.iinc 3 1, 3) := by decide +kernel
theorem dX1_capacityOut_59 : decode cX1_capacityOut 59 = .ok (.goto (-55), 3) := by decide +kernel
theorem dX1_capacityOut_62 : decode cX1_capacityOut 62 = .ok (.iload_n 2, 1) := by decide +kernel
theorem dX1_capacityOut_63 : decode cX1_capacityOut 63 = .ok (.ireturn, 1) := by decide +kernel
theorem dX2_init_0 : decode cX2_init 0 = .ok (.aload_n 0, 1) := by decide +kernel
theorem dX2_init_1 : decode cX2_init 1 = .ok (.invokespecial 3, 3) := by decide +kernel
theorem dX2_init_4 : decode cX2_init 4 = .ok (.aload_n 0, 1) := by decide +kernel
theorem dX2_init_5 : decode cX2_init 5 = .ok (.bipush 8, 2) := by decide +kernel
theorem dX2_init_7 : decode cX2_init 7 = .ok (.bipush 80, 2) := by decide +kernel
theorem dX2_init_9 : decode cX2_init 9 = .ok (.multianewarray 9 2, 4) := by decide +kernel
theorem dX2_init_13 : decode cX2_init 13 = .ok (.putfield 11, 3) := by decide +kernel
theorem dX2_init_16 : decode cX2_init 16 = .ok (.aload_n 0, 1) := by decide +kernel
theorem dX2_init_17 : decode cX2_init 17 = .ok (.bipush 8, 2) := by decide +kernel
theorem dX2_init_19 : decode cX2_init 19 = .ok (.newarray .int, 2) := by decide +kernel
theorem dX2_init_21 : decode cX2_init 21 = .ok (.putfield 16, 3) := by decide +kernel
theorem dX2_init_24 : decode cX2_init 24 = .ok (.aload_n 0, 1) := by decide +kernel
theorem dX2_init_25 : decode cX2_init 25 = .ok (.bipush 8, 2) := by decide +kernel
theorem dX2_init_27 : decode cX2_init 27 = .ok (.newarray .int, 2) := by decide +kernel
theorem dX2_init_29 : decode cX2_init 29 = .ok (.putfield 20, 3) := by decide +kernel
theorem dX2_init_32 : decode cX2_init 32 = .ok (.return_, 1) := by decide +kernel
theorem dX3_init_0 : decode cX3_init 0 = .ok (.aload_n 0, 1) := by decide +kernel
theorem dX3_init_1 : decode cX3_init 1 = .ok (.invokespecial 3, 3) := by decide +kernel
theorem dX3_init_4 : decode cX3_init 4 = .ok (.aload_n 0, 1) := by decide +kernel
theorem dX3_init_5 : decode cX3_init 5 = .ok (.iconst (-1), 1) := by decide +kernel
theorem dX3_init_6 : decode cX3_init 6 = .ok (.putfield 9, 3) := by decide +kernel
theorem dX3_init_9 : decode cX3_init 9 = .ok (.aload_n 0, 1) := by decide +kernel
theorem dX3_init_10 : decode cX3_init 10 = .ok (.iconst (-1), 1) := by decide +kernel
theorem dX3_init_11 : decode cX3_init 11 = .ok (.putfield 15, 3) := by decide +kernel
theorem dX3_init_14 : decode cX3_init 14 = .ok (.new 18, 3) := by decide +kernel
theorem dX3_init_17 : decode cX3_init 17 = .ok (.dup, 1) := by decide +kernel
theorem dX3_init_18 : decode cX3_init 18 = .ok (.aload_n 1, 1) := by decide +kernel
theorem dX3_init_19 : decode cX3_init 19 = .ok (.invokespecial 20, 3) := by decide +kernel
theorem dX3_init_22 : decode cX3_init 22 = .ok (.astore_n 2, 1) := by decide +kernel
theorem dX3_init_23 : decode cX3_init 23 = .ok (.aload_n 0, 1) := by decide +kernel
theorem dX3_init_24 : decode cX3_init 24 = .ok (.aload_n 1, 1) := by decide +kernel
theorem dX3_init_25 : decode cX3_init 25 = .ok (.putfield 23, 3) := by decide +kernel
theorem dX3_init_28 : decode cX3_init 28 = .ok (.aload_n 0, 1) := by decide +kernel
theorem dX3_init_29 : decode cX3_init 29 = .ok (.aload_n 2, 1) := by decide +kernel
theorem dX3_init_30 : decode cX3_init 30 = .ok (.putfield 27, 3) := by decide +kernel
theorem dX3_init_33 : decode cX3_init 33 = .ok (.aload_n 0, 1) := by decide +kernel
theorem dX3_init_34 : decode cX3_init 34 = .ok (.new 31, 3) := by decide +kernel
theorem dX3_init_37 : decode cX3_init 37 = .ok (.dup, 1) := by decide +kernel
theorem dX3_init_38 : decode cX3_init 38 = .ok (.aload_n 1, 1) := by decide +kernel
theorem dX3_init_39 : decode cX3_init 39 = .ok (.aload_n 2, 1) := by decide +kernel
theorem dX3_init_40 : decode cX3_init 40 = .ok (.invokespecial 33, 3) := by decide +kernel
theorem dX3_init_43 : decode cX3_init 43 = .ok (.putfield 36, 3) := by decide +kernel
theorem dX3_init_46 : decode cX3_init 46 = .ok (.return_, 1) := by decide +kernel
theorem dX3_hasEnds_0 : decode cX3_hasEnds 0 = .ok (.aload_n 0, 1) := by decide +kernel
theorem dX3_hasEnds_1 : decode cX3_hasEnds 1 = .ok (.getfield 9, 3) := by decide +kernel
theorem dX3_hasEnds_4 : decode cX3_hasEnds 4 = .ok (.iconst (-1), 1) := by decide +kernel
theorem dX3_hasEnds_5 : decode cX3_hasEnds 5 = .ok (.if_icmp .eq 15, 3) := by decide +kernel
theorem dX3_hasEnds_8 : decode cX3_hasEnds 8 = .ok (.aload_n 0, 1) := by decide +kernel
theorem dX3_hasEnds_9 : decode cX3_hasEnds 9 = .ok (.getfield 15, 3) := by decide +kernel
theorem dX3_hasEnds_12 : decode cX3_hasEnds 12 = .ok (.iconst (-1), 1) := by decide +kernel
theorem dX3_hasEnds_13 : decode cX3_hasEnds 13 = .ok (.if_icmp .eq 7, 3) := by decide +kernel
theorem dX3_hasEnds_16 : decode cX3_hasEnds 16 = .ok (.iconst 1, 1) := by decide +kernel
theorem dX3_hasEnds_17 : decode cX3_hasEnds 17 = .ok (.goto 4, 3) := by decide +kernel
theorem dX3_hasEnds_20 : decode cX3_hasEnds 20 = .ok (.iconst 0, 1) := by decide +kernel
theorem dX3_hasEnds_21 : decode cX3_hasEnds 21 = .ok (.ireturn, 1) := by decide +kernel
theorem dX3_copy_0 : decode cX3_copy 0 = .ok (.aload_n 0, 1) := by decide +kernel
theorem dX3_copy_1 : decode cX3_copy 1 = .ok (.getfield 27, 3) := by decide +kernel
theorem dX3_copy_4 : decode cX3_copy 4 = .ok (.aload_n 1, 1) := by decide +kernel
theorem dX3_copy_5 : decode cX3_copy 5 = .ok (.getfield 27, 3) := by decide +kernel
theorem dX3_copy_8 : decode cX3_copy 8 = .ok (.invokevirtual 40, 3) := by decide +kernel
theorem dX3_copy_11 : decode cX3_copy 11 = .ok (.aload_n 0, 1) := by decide +kernel
theorem dX3_copy_12 : decode cX3_copy 12 = .ok (.aload_n 1, 1) := by decide +kernel
theorem dX3_copy_13 : decode cX3_copy 13 = .ok (.getfield 9, 3) := by decide +kernel
theorem dX3_copy_16 : decode cX3_copy 16 = .ok (.putfield 9, 3) := by decide +kernel
theorem dX3_copy_19 : decode cX3_copy 19 = .ok (.aload_n 0, 1) := by decide +kernel
theorem dX3_copy_20 : decode cX3_copy 20 = .ok (.aload_n 1, 1) := by decide +kernel
theorem dX3_copy_21 : decode cX3_copy 21 = .ok (.getfield 15, 3) := by decide +kernel
theorem dX3_copy_24 : decode cX3_copy 24 = .ok (.putfield 15, 3) := by decide +kernel
theorem dX3_copy_27 : decode cX3_copy 27 = .ok (.aload_n 0, 1) := by decide +kernel
theorem dX3_copy_28 : decode cX3_copy 28 = .ok (.aload_n 1, 1) := by decide +kernel
theorem dX3_copy_29 : decode cX3_copy 29 = .ok (.getfield 44, 3) := by decide +kernel
theorem dX3_copy_32 : decode cX3_copy 32 = .ok (.putfield 44, 3) := by decide +kernel
theorem dX3_copy_35 : decode cX3_copy 35 = .ok (.return_, 1) := by decide +kernel
theorem dX3_chooseEnds_0 : decode cX3_chooseEnds 0 = .ok (.aload_n 0, 1) := by decide +kernel
theorem dX3_chooseEnds_1 : decode cX3_chooseEnds 1 = .ok (.getfield 9, 3) := by decide +kernel
theorem dX3_chooseEnds_4 : decode cX3_chooseEnds 4 = .ok (.iload_n 1, 1) := by decide +kernel
theorem dX3_chooseEnds_5 : decode cX3_chooseEnds 5 = .ok (.if_icmp .ne 13, 3) := by decide +kernel
theorem dX3_chooseEnds_8 : decode cX3_chooseEnds 8 = .ok (.aload_n 0, 1) := by decide +kernel
theorem dX3_chooseEnds_9 : decode cX3_chooseEnds 9 = .ok (.getfield 15, 3) := by decide +kernel
theorem dX3_chooseEnds_12 : decode cX3_chooseEnds 12 = .ok (.iload_n 2, 1) := by decide +kernel
theorem dX3_chooseEnds_13 : decode cX3_chooseEnds 13 = .ok (.if_icmp .ne 5, 3) := by decide +kernel
theorem dX3_chooseEnds_16 : decode cX3_chooseEnds 16 = .ok (.iconst 0, 1) := by decide +kernel
theorem dX3_chooseEnds_17 : decode cX3_chooseEnds 17 = .ok (.ireturn, 1) := by decide +kernel
theorem dX3_chooseEnds_18 : decode cX3_chooseEnds 18 = .ok (.aload_n 0, 1) := by decide +kernel
theorem dX3_chooseEnds_19 : decode cX3_chooseEnds 19 = .ok (.iload_n 1, 1) := by decide +kernel
theorem dX3_chooseEnds_20 : decode cX3_chooseEnds 20 = .ok (.putfield 9, 3) := by decide +kernel
theorem dX3_chooseEnds_23 : decode cX3_chooseEnds 23 = .ok (.aload_n 0, 1) := by decide +kernel
theorem dX3_chooseEnds_24 : decode cX3_chooseEnds 24 = .ok (.iload_n 2, 1) := by decide +kernel
theorem dX3_chooseEnds_25 : decode cX3_chooseEnds 25 = .ok (.putfield 15, 3) := by decide +kernel
theorem dX3_chooseEnds_28 : decode cX3_chooseEnds 28 = .ok (.aload_n 0, 1) := by decide +kernel
theorem dX3_chooseEnds_29 : decode cX3_chooseEnds 29 = .ok (.iconst 0, 1) := by decide +kernel
theorem dX3_chooseEnds_30 : decode cX3_chooseEnds 30 = .ok (.putfield 44, 3) := by decide +kernel
theorem dX3_chooseEnds_33 : decode cX3_chooseEnds 33 = .ok (.aload_n 0, 1) := by decide +kernel
theorem dX3_chooseEnds_34 : decode cX3_chooseEnds 34 = .ok (.getfield 27, 3) := by decide +kernel
theorem dX3_chooseEnds_37 : decode cX3_chooseEnds 37 = .ok (.getfield 48, 3) := by decide +kernel
theorem dX3_chooseEnds_40 : decode cX3_chooseEnds 40 = .ok (.iconst 0, 1) := by decide +kernel
theorem dX3_chooseEnds_41 : decode cX3_chooseEnds 41 = .ok (.invokestatic 52, 3) := by decide +kernel
theorem dX3_chooseEnds_44 : decode cX3_chooseEnds 44 = .ok (.iconst 1, 1) := by decide +kernel
theorem dX3_chooseEnds_45 : decode cX3_chooseEnds 45 = .ok (.ireturn, 1) := by decide +kernel
theorem dX3_changeCapacity_0 : decode cX3_changeCapacity 0 = .ok (.aload_n 0, 1) := by decide +kernel
theorem dX3_changeCapacity_1 : decode cX3_changeCapacity 1 = .ok (.getfield 27, 3) := by decide +kernel
theorem dX3_changeCapacity_4 : decode cX3_changeCapacity 4 = .ok (.getfield 58, 3) := by decide +kernel
theorem dX3_changeCapacity_7 : decode cX3_changeCapacity 7 = .ok (.iload_n 1, 1) := by decide +kernel
theorem dX3_changeCapacity_8 : decode cX3_changeCapacity 8 = .ok (.iaload, 1) := by decide +kernel
theorem dX3_changeCapacity_9 : decode cX3_changeCapacity 9 = .ok (.iload_n 2, 1) := by decide +kernel
theorem dX3_changeCapacity_10 : decode cX3_changeCapacity 10 = .ok (.if_icmp .ne 4, 3) := by decide +kernel
theorem dX3_changeCapacity_13 : decode cX3_changeCapacity 13 = .ok (.return_, 1) := by decide +kernel
theorem dX3_changeCapacity_14 : decode cX3_changeCapacity 14 = .ok (.aload_n 0, 1) := by decide +kernel
theorem dX3_changeCapacity_15 : decode cX3_changeCapacity 15 = .ok (.getfield 27, 3) := by decide +kernel
theorem dX3_changeCapacity_18 : decode cX3_changeCapacity 18 = .ok (.getfield 58, 3) := by decide +kernel
theorem dX3_changeCapacity_21 : decode cX3_changeCapacity 21 = .ok (.iload_n 1, 1) := by decide +kernel
theorem dX3_changeCapacity_22 : decode cX3_changeCapacity 22 = .ok (.iload_n 2, 1) := by decide +kernel
theorem dX3_changeCapacity_23 : decode cX3_changeCapacity 23 = .ok (.iastore, 1) := by decide +kernel
theorem dX3_changeCapacity_24 : decode cX3_changeCapacity 24 = .ok (.aload_n 0, 1) := by decide +kernel
theorem dX3_changeCapacity_25 : decode cX3_changeCapacity 25 = .ok (.iconst 0, 1) := by decide +kernel
theorem dX3_changeCapacity_26 : decode cX3_changeCapacity 26 = .ok (.putfield 44, 3) := by decide +kernel
theorem dX3_changeCapacity_29 : decode cX3_changeCapacity 29 = .ok (.aload_n 0, 1) := by decide +kernel
theorem dX3_changeCapacity_30 : decode cX3_changeCapacity 30 = .ok (.getfield 27, 3) := by decide +kernel
theorem dX3_changeCapacity_33 : decode cX3_changeCapacity 33 = .ok (.getfield 48, 3) := by decide +kernel
theorem dX3_changeCapacity_36 : decode cX3_changeCapacity 36 = .ok (.iload_n 1, 1) := by decide +kernel
theorem dX3_changeCapacity_37 : decode cX3_changeCapacity 37 = .ok (.iaload, 1) := by decide +kernel
theorem dX3_changeCapacity_38 : decode cX3_changeCapacity 38 = .ok (.iload_n 2, 1) := by decide +kernel
theorem dX3_changeCapacity_39 : decode cX3_changeCapacity 39 = .ok (.isub, 1) := by decide +kernel
theorem dX3_changeCapacity_40 : decode cX3_changeCapacity 40 = .ok (.istore_n 3, 1) := by decide +kernel
theorem dX3_changeCapacity_41 : decode cX3_changeCapacity 41 = .ok (.iload_n 3, 1) := by decide +kernel
theorem dX3_changeCapacity_42 : decode cX3_changeCapacity 42 = .ok (.ifCond .le 36, 3) := by decide +kernel
theorem dX3_changeCapacity_45 : decode cX3_changeCapacity 45 = .ok (.aload_n 0, 1) := by decide +kernel
theorem dX3_changeCapacity_46 : decode cX3_changeCapacity 46 = .ok (.getfield 27, 3) := by decide +kernel
theorem dX3_changeCapacity_49 : decode cX3_changeCapacity 49 = .ok (.getfield 48, 3) := by decide +kernel
theorem dX3_changeCapacity_52 : decode cX3_changeCapacity 52 = .ok (.iload_n 1, 1) := by decide +kernel
theorem dX3_changeCapacity_53 : decode cX3_changeCapacity 53 = .ok (.iload_n 2, 1) := by decide +kernel
theorem dX3_changeCapacity_54 : decode cX3_changeCapacity 54 = .ok (.iastore, 1) := by decide +kernel
theorem dX3_changeCapacity_55 : decode cX3_changeCapacity 55 = .ok (.aload_n 0, 1) := by decide +kernel
theorem dX3_changeCapacity_56 : decode cX3_changeCapacity 56 = .ok (.aload_n 0, 1) := by decide +kernel
theorem dX3_changeCapacity_57 : decode cX3_changeCapacity 57 = .ok (.getfield 23, 3) := by decide +kernel
theorem dX3_changeCapacity_60 : decode cX3_changeCapacity 60 = .ok (.getfield 61, 3) := by decide +kernel
theorem dX3_changeCapacity_63 : decode cX3_changeCapacity 63 = .ok (.iload_n 1, 1) := by decide +kernel
theorem dX3_changeCapacity_64 : decode cX3_changeCapacity 64 = .ok (.iaload, 1) := by decide +kernel
theorem dX3_changeCapacity_65 : decode cX3_changeCapacity 65 = .ok (.aload_n 0, 1) := by decide +kernel
theorem dX3_changeCapacity_66 : decode cX3_changeCapacity 66 = .ok (.getfield 23, 3) := by decide +kernel
theorem dX3_changeCapacity_69 : decode cX3_changeCapacity 69 = .ok (.getfield 66, 3) := by decide +kernel
theorem dX3_changeCapacity_72 : decode cX3_changeCapacity 72 = .ok (.iload_n 1, 1) := by decide +kernel
theorem dX3_changeCapacity_73 : decode cX3_changeCapacity 73 = .ok (.iaload, 1) := by decide +kernel
theorem dX3_changeCapacity_74 : decode cX3_changeCapacity 74 = .ok (.iload_n 3, 1) := by decide +kernel
theorem dX3_changeCapacity_75 : decode cX3_changeCapacity 75 = .ok (.invokevirtual 69, 3) := by decide +kernel
theorem dX3_changeCapacity_78 : decode cX3_changeCapacity 78 = .ok (.return_, 1) := by decide +kernel
theorem dX3_moveAway_0 : decode cX3_moveAway 0 = .ok (.iload_n 3, 1) := by decide +kernel
theorem dX3_moveAway_1 : decode cX3_moveAway 1 = .ok (.aload_n 0, 1) := by decide +kernel
theorem dX3_moveAway_2 : decode cX3_moveAway 2 = .ok (.getfield 36, 3) := by decide +kernel
theorem dX3_moveAway_5 : decode cX3_moveAway 5 = .ok (.iload_n 1, 1) := by decide +kernel
theorem dX3_moveAway_6 : decode cX3_moveAway 6 = .ok (.iload_n 2, 1) := by decide +kernel
theorem dX3_moveAway_7 : decode cX3_moveAway 7 = .ok (.iload_n 3, 1) := by decide +kernel
theorem dX3_moveAway_8 : decode cX3_moveAway 8 = .ok (.invokevirtual 73, 3) := by decide +kernel
theorem dX3_moveAway_11 : decode cX3_moveAway 11 = .ok (.isub, 1) := by decide +kernel
theorem dX3_moveAway_12 : decode cX3_moveAway 12 = .ok (.istore 4, 2) := by decide +kernel
theorem dX3_moveAway_14 : decode cX3_moveAway 14 = .ok (.aload_n 0, 1) := by decide +kernel
theorem dX3_moveAway_15 : decode cX3_moveAway 15 = .ok (.getfield 36, 3) := by decide +kernel
theorem dX3_moveAway_18 : decode cX3_moveAway 18 = .ok (.iload_n 1, 1) := by decide +kernel
theorem dX3_moveAway_19 : decode cX3_moveAway 19 = .ok (.aload_n 0, 1) := by decide +kernel
theorem dX3_moveAway_20 : decode cX3_moveAway 20 = .ok (.getfield 9, 3) := by decide +kernel
theorem dX3_moveAway_23 : decode cX3_moveAway 23 = .ok (.iload 4, 2) := by decide +kernel
theorem dX3_moveAway_25 : decode cX3_moveAway 25 = .ok (.invokevirtual 73, 3) := by decide +kernel
theorem dX3_moveAway_28 : decode cX3_moveAway 28 = .ok (.pop, 1) := by decide +kernel
theorem dX3_moveAway_29 : decode cX3_moveAway 29 = .ok (.aload_n 0, 1) := by decide +kernel
theorem dX3_moveAway_30 : decode cX3_moveAway 30 = .ok (.getfield 36, 3) := by decide +kernel
theorem dX3_moveAway_33 : decode cX3_moveAway 33 = .ok (.aload_n 0, 1) := by decide +kernel
theorem dX3_moveAway_34 : decode cX3_moveAway 34 = .ok (.getfield 15, 3) := by decide +kernel
theorem dX3_moveAway_37 : decode cX3_moveAway 37 = .ok (.iload_n 2, 1) := by decide +kernel
theorem dX3_moveAway_38 : decode cX3_moveAway 38 = .ok (.iload 4, 2) := by decide +kernel
theorem dX3_moveAway_40 : decode cX3_moveAway 40 = .ok (.invokevirtual 73, 3) := by decide +kernel
theorem dX3_moveAway_43 : decode cX3_moveAway 43 = .ok (.pop, 1) := by decide +kernel
theorem dX3_moveAway_44 : decode cX3_moveAway 44 = .ok (.return_, 1) := by decide +kernel
theorem dX3_settle_0 : decode cX3_settle 0 = .ok (.aload_n 0, 1) := by decide +kernel
theorem dX3_settle_1 : decode cX3_settle 1 = .ok (.getfield 44, 3) := by decide +kernel
theorem dX3_settle_4 : decode cX3_settle 4 = .ok (.ifCond .ne 26, 3) := by decide +kernel
theorem dX3_settle_7 : decode cX3_settle 7 = .ok (.aload_n 0, 1) := by decide +kernel
theorem dX3_settle_8 : decode cX3_settle 8 = .ok (.getfield 36, 3) := by decide +kernel
theorem dX3_settle_11 : decode cX3_settle 11 = .ok (.aload_n 0, 1) := by decide +kernel
theorem dX3_settle_12 : decode cX3_settle 12 = .ok (.getfield 9, 3) := by decide +kernel
theorem dX3_settle_15 : decode cX3_settle 15 = .ok (.aload_n 0, 1) := by decide +kernel
theorem dX3_settle_16 : decode cX3_settle 16 = .ok (.getfield 15, 3) := by decide +kernel
theorem dX3_settle_19 : decode cX3_settle 19 = .ok (.ldc 77, 2) := by decide +kernel
theorem dX3_settle_21 : decode cX3_settle 21 = .ok (.invokevirtual 73, 3) := by decide +kernel
theorem dX3_settle_24 : decode cX3_settle 24 = .ok (.pop, 1) := by decide +kernel
theorem dX3_settle_25 : decode cX3_settle 25 = .ok (.aload_n 0, 1) := by decide +kernel
theorem dX3_settle_26 : decode cX3_settle 26 = .ok (.iconst 1, 1) := by decide +kernel
theorem dX3_settle_27 : decode cX3_settle 27 = .ok (.putfield 44, 3) := by decide +kernel
theorem dX3_settle_30 : decode cX3_settle 30 = .ok (.return_, 1) := by decide +kernel
theorem dX3_greatestValue_0 : decode cX3_greatestValue 0 = .ok (.aload_n 0, 1) := by decide +kernel
theorem dX3_greatestValue_1 : decode cX3_greatestValue 1 = .ok (.invokevirtual 78, 3) := by decide +kernel
theorem dX3_greatestValue_4 : decode cX3_greatestValue 4 = .ok (.iconst 0, 1) := by decide +kernel
theorem dX3_greatestValue_5 : decode cX3_greatestValue 5 = .ok (.istore_n 1, 1) := by decide +kernel
theorem dX3_greatestValue_6 : decode cX3_greatestValue 6 = .ok (.iconst 0, 1) := by decide +kernel
theorem dX3_greatestValue_7 : decode cX3_greatestValue 7 = .ok (.istore_n 2, 1) := by decide +kernel
theorem dX3_greatestValue_8 : decode cX3_greatestValue 8 = .ok (.iload_n 2, 1) := by decide +kernel
theorem dX3_greatestValue_9 : decode cX3_greatestValue 9 = .ok (.aload_n 0, 1) := by decide +kernel
theorem dX3_greatestValue_10 : decode cX3_greatestValue 10 = .ok (.getfield 23, 3) := by decide +kernel
theorem dX3_greatestValue_13 : decode cX3_greatestValue 13 = .ok (.getfield 81, 3) := by decide +kernel
theorem dX3_greatestValue_16 : decode cX3_greatestValue 16 = .ok (.if_icmp .ge 65, 3) := by decide +kernel
theorem dX3_greatestValue_19 : decode cX3_greatestValue 19 = .ok (.aload_n 0, 1) := by decide +kernel
theorem dX3_greatestValue_20 : decode cX3_greatestValue 20 = .ok (.getfield 23, 3) := by decide +kernel
theorem dX3_greatestValue_23 : decode cX3_greatestValue 23 = .ok (.getfield 61, 3) := by decide +kernel
theorem dX3_greatestValue_26 : decode cX3_greatestValue 26 = .ok (.iload_n 2, 1) := by decide +kernel
theorem dX3_greatestValue_27 : decode cX3_greatestValue 27 = .ok (.iaload, 1) := by decide +kernel
theorem dX3_greatestValue_28 : decode cX3_greatestValue 28 = .ok (.aload_n 0, 1) := by decide +kernel
theorem dX3_greatestValue_29 : decode cX3_greatestValue 29 = .ok (.getfield 9, 3) := by decide +kernel
theorem dX3_greatestValue_32 : decode cX3_greatestValue 32 = .ok (.if_icmp .ne 15, 3) := by decide +kernel
theorem dX3_greatestValue_35 : decode cX3_greatestValue 35 = .ok (.iload_n 1, 1) := by decide +kernel
theorem dX3_greatestValue_36 : decode cX3_greatestValue 36 = .ok (.aload_n 0, 1) := by decide +kernel
theorem dX3_greatestValue_37 : decode cX3_greatestValue 37 = .ok (.getfield 27, 3) := by decide +kernel
theorem dX3_greatestValue_40 : decode cX3_greatestValue 40 = .ok (.getfield 48, 3) := by decide +kernel
theorem dX3_greatestValue_43 : decode cX3_greatestValue 43 = .ok (.iload_n 2, 1) := by decide +kernel
theorem dX3_greatestValue_44 : decode cX3_greatestValue 44 = .ok (.iaload, 1) := by decide +kernel
theorem dX3_greatestValue_45 : decode cX3_greatestValue 45 = .ok (.iadd, 1) := by decide +kernel
theorem dX3_greatestValue_46 : decode cX3_greatestValue 46 = .ok (.istore_n 1, 1) := by decide +kernel
theorem dX3_greatestValue_47 : decode cX3_greatestValue 47 = .ok (.aload_n 0, 1) := by decide +kernel
theorem dX3_greatestValue_48 : decode cX3_greatestValue 48 = .ok (.getfield 23, 3) := by decide +kernel
theorem dX3_greatestValue_51 : decode cX3_greatestValue 51 = .ok (.getfield 66, 3) := by decide +kernel
theorem dX3_greatestValue_54 : decode cX3_greatestValue 54 = .ok (.iload_n 2, 1) := by decide +kernel
theorem dX3_greatestValue_55 : decode cX3_greatestValue 55 = .ok (.iaload, 1) := by decide +kernel
theorem dX3_greatestValue_56 : decode cX3_greatestValue 56 = .ok (.aload_n 0, 1) := by decide +kernel
theorem dX3_greatestValue_57 : decode cX3_greatestValue 57 = .ok (.getfield 9, 3) := by decide +kernel
theorem dX3_greatestValue_60 : decode cX3_greatestValue 60 = .ok (.if_icmp .ne 15, 3) := by decide +kernel
theorem dX3_greatestValue_63 : decode cX3_greatestValue 63 = .ok (.iload_n 1, 1) := by decide +kernel
theorem dX3_greatestValue_64 : decode cX3_greatestValue 64 = .ok (.aload_n 0, 1) := by decide +kernel
theorem dX3_greatestValue_65 : decode cX3_greatestValue 65 = .ok (.getfield 27, 3) := by decide +kernel
theorem dX3_greatestValue_68 : decode cX3_greatestValue 68 = .ok (.getfield 48, 3) := by decide +kernel
theorem dX3_greatestValue_71 : decode cX3_greatestValue 71 = .ok (.iload_n 2, 1) := by decide +kernel
theorem dX3_greatestValue_72 : decode cX3_greatestValue 72 = .ok (.iaload, 1) := by decide +kernel
theorem dX3_greatestValue_73 : decode cX3_greatestValue 73 = .ok (.isub, 1) := by decide +kernel
theorem dX3_greatestValue_74 : decode cX3_greatestValue 74 = .ok (.istore_n 1, 1) := by decide +kernel
theorem dX3_greatestValue_75 : decode cX3_greatestValue 75 = .ok (.iinc 2 1, 3) := by decide +kernel
theorem dX3_greatestValue_78 : decode cX3_greatestValue 78 = .ok (.goto (-70), 3) := by decide +kernel
theorem dX3_greatestValue_81 : decode cX3_greatestValue 81 = .ok (.iload_n 1, 1) := by decide +kernel
theorem dX3_greatestValue_82 : decode cX3_greatestValue 82 = .ok (.ireturn, 1) := by decide +kernel
theorem dX3_smallestMask_0 : decode cX3_smallestMask 0 = .ok (.aload_n 0, 1) := by decide +kernel
theorem dX3_smallestMask_1 : decode cX3_smallestMask 1 = .ok (.invokevirtual 78, 3) := by decide +kernel
theorem dX3_smallestMask_4 : decode cX3_smallestMask 4 = .ok (.aload_n 0, 1) := by decide +kernel
theorem dX3_smallestMask_5 : decode cX3_smallestMask 5 = .ok (.getfield 27, 3) := by decide +kernel
theorem dX3_smallestMask_8 : decode cX3_smallestMask 8 = .ok (.aload_n 0, 1) := by decide +kernel
theorem dX3_smallestMask_9 : decode cX3_smallestMask 9 = .ok (.getfield 9, 3) := by decide +kernel
theorem dX3_smallestMask_12 : decode cX3_smallestMask 12 = .ok (.invokevirtual 84, 3) := by decide +kernel
theorem dX3_smallestMask_15 : decode cX3_smallestMask 15 = .ok (.ireturn, 1) := by decide +kernel
theorem dX3_greatestMask_0 : decode cX3_greatestMask 0 = .ok (.aload_n 0, 1) := by decide +kernel
theorem dX3_greatestMask_1 : decode cX3_greatestMask 1 = .ok (.invokevirtual 78, 3) := by decide +kernel
theorem dX3_greatestMask_4 : decode cX3_greatestMask 4 = .ok (.iconst 0, 1) := by decide +kernel
theorem dX3_greatestMask_5 : decode cX3_greatestMask 5 = .ok (.istore_n 1, 1) := by decide +kernel
theorem dX3_greatestMask_6 : decode cX3_greatestMask 6 = .ok (.iconst 0, 1) := by decide +kernel
theorem dX3_greatestMask_7 : decode cX3_greatestMask 7 = .ok (.istore_n 2, 1) := by decide +kernel
theorem dX3_greatestMask_8 : decode cX3_greatestMask 8 = .ok (.iload_n 2, 1) := by decide +kernel
theorem dX3_greatestMask_9 : decode cX3_greatestMask 9 = .ok (.aload_n 0, 1) := by decide +kernel
theorem dX3_greatestMask_10 : decode cX3_greatestMask 10 = .ok (.getfield 23, 3) := by decide +kernel
theorem dX3_greatestMask_13 : decode cX3_greatestMask 13 = .ok (.getfield 88, 3) := by decide +kernel
theorem dX3_greatestMask_16 : decode cX3_greatestMask 16 = .ok (.if_icmp .ge 33, 3) := by decide +kernel
theorem dX3_greatestMask_19 : decode cX3_greatestMask 19 = .ok (.aload_n 0, 1) := by decide +kernel
theorem dX3_greatestMask_20 : decode cX3_greatestMask 20 = .ok (.getfield 27, 3) := by decide +kernel
theorem dX3_greatestMask_23 : decode cX3_greatestMask 23 = .ok (.iload_n 2, 1) := by decide +kernel
theorem dX3_greatestMask_24 : decode cX3_greatestMask 24 = .ok (.invokevirtual 84, 3) := by decide +kernel
theorem dX3_greatestMask_27 : decode cX3_greatestMask 27 = .ok (.aload_n 0, 1) := by decide +kernel
theorem dX3_greatestMask_28 : decode cX3_greatestMask 28 = .ok (.getfield 15, 3) := by decide +kernel
theorem dX3_greatestMask_31 : decode cX3_greatestMask 31 = .ok (.invokestatic 91, 3) := by decide +kernel
theorem dX3_greatestMask_34 : decode cX3_greatestMask 34 = .ok (.ifCond .ne 9, 3) := by decide +kernel
theorem dX3_greatestMask_37 : decode cX3_greatestMask 37 = .ok (.iload_n 1, 1) := by decide +kernel
theorem dX3_greatestMask_38 : decode cX3_greatestMask 38 = .ok (.iconst 1, 1) := by decide +kernel
theorem dX3_greatestMask_39 : decode cX3_greatestMask 39 = .ok (.iload_n 2, 1) := by decide +kernel
theorem dX3_greatestMask_40 : decode cX3_greatestMask 40 = .ok (.ishl, 1) := by decide +kernel
theorem dX3_greatestMask_41 : decode cX3_greatestMask 41 = .ok (.ior, 1) := by decide +kernel
theorem dX3_greatestMask_42 : decode cX3_greatestMask 42 = .ok (.istore_n 1, 1) := by decide +kernel
theorem dX3_greatestMask_43 : decode cX3_greatestMask 43 = .ok (.iinc 2 1, 3) := by decide +kernel
theorem dX3_greatestMask_46 : decode cX3_greatestMask 46 = .ok (.goto (-38), 3) := by decide +kernel
theorem dX3_greatestMask_49 : decode cX3_greatestMask 49 = .ok (.iload_n 1, 1) := by decide +kernel
theorem dX3_greatestMask_50 : decode cX3_greatestMask 50 = .ok (.ireturn, 1) := by decide +kernel
theorem dX4_init_0 : decode cX4_init 0 = .ok (.aload_n 0, 1) := by decide +kernel
theorem dX4_init_1 : decode cX4_init 1 = .ok (.invokespecial 3, 3) := by decide +kernel
theorem dX4_init_4 : decode cX4_init 4 = .ok (.aload_n 0, 1) := by decide +kernel
theorem dX4_init_5 : decode cX4_init 5 = .ok (.bipush 80, 2) := by decide +kernel
theorem dX4_init_7 : decode cX4_init 7 = .ok (.newarray .int, 2) := by decide +kernel
theorem dX4_init_9 : decode cX4_init 9 = .ok (.putfield 9, 3) := by decide +kernel
theorem dX4_init_12 : decode cX4_init 12 = .ok (.aload_n 0, 1) := by decide +kernel
theorem dX4_init_13 : decode cX4_init 13 = .ok (.bipush 80, 2) := by decide +kernel
theorem dX4_init_15 : decode cX4_init 15 = .ok (.newarray .int, 2) := by decide +kernel
theorem dX4_init_17 : decode cX4_init 17 = .ok (.putfield 15, 3) := by decide +kernel
theorem dX4_init_20 : decode cX4_init 20 = .ok (.aload_n 0, 1) := by decide +kernel
theorem dX4_init_21 : decode cX4_init 21 = .ok (.bipush 24, 2) := by decide +kernel
theorem dX4_init_23 : decode cX4_init 23 = .ok (.newarray .int, 2) := by decide +kernel
theorem dX4_init_25 : decode cX4_init 25 = .ok (.putfield 18, 3) := by decide +kernel
theorem dX4_init_28 : decode cX4_init 28 = .ok (.aload_n 0, 1) := by decide +kernel
theorem dX4_init_29 : decode cX4_init 29 = .ok (.bipush 24, 2) := by decide +kernel
theorem dX4_init_31 : decode cX4_init 31 = .ok (.bipush 80, 2) := by decide +kernel
theorem dX4_init_33 : decode cX4_init 33 = .ok (.multianewarray 21 2, 4) := by decide +kernel
theorem dX4_init_37 : decode cX4_init 37 = .ok (.putfield 23, 3) := by decide +kernel
theorem dX4_init_40 : decode cX4_init 40 = .ok (.return_, 1) := by decide +kernel
theorem dX4_makeNode_0 : decode cX4_makeNode 0 = .ok (.aload_n 0, 1) := by decide +kernel
theorem dX4_makeNode_1 : decode cX4_makeNode 1 = .ok (.dup, 1) := by decide +kernel
theorem dX4_makeNode_2 : decode cX4_makeNode 2 = .ok (.getfield 26, 3) := by decide +kernel
theorem dX4_makeNode_5 : decode cX4_makeNode 5 = .ok (.iconst 1, 1) := by decide +kernel
theorem dX4_makeNode_6 : decode cX4_makeNode 6 = .ok (.iadd, 1) := by decide +kernel
theorem dX4_makeNode_7 : decode cX4_makeNode 7 = .ok (.putfield 26, 3) := by decide +kernel
theorem dX4_makeNode_10 : decode cX4_makeNode 10 = .ok (.aload_n 0, 1) := by decide +kernel
theorem dX4_makeNode_11 : decode cX4_makeNode 11 = .ok (.getfield 26, 3) := by decide +kernel
theorem dX4_makeNode_14 : decode cX4_makeNode 14 = .ok (.iconst 1, 1) := by decide +kernel
theorem dX4_makeNode_15 : decode cX4_makeNode 15 = .ok (.isub, 1) := by decide +kernel
theorem dX4_makeNode_16 : decode cX4_makeNode 16 = .ok (.ireturn, 1) := by decide +kernel
theorem dX4_makeArc_0 : decode cX4_makeArc 0 = .ok (.aload_n 0, 1) := by decide +kernel
theorem dX4_makeArc_1 : decode cX4_makeArc 1 = .ok (.getfield 30, 3) := by decide +kernel
theorem dX4_makeArc_4 : decode cX4_makeArc 4 = .ok (.istore_n 3, 1) := by decide +kernel
theorem dX4_makeArc_5 : decode cX4_makeArc 5 = .ok (.aload_n 0, 1) := by decide +kernel
theorem dX4_makeArc_6 : decode cX4_makeArc 6 = .ok (.dup, 1) := by decide +kernel
theorem dX4_makeArc_7 : decode cX4_makeArc 7 = .ok (.getfield 30, 3) := by decide +kernel
theorem dX4_makeArc_10 : decode cX4_makeArc 10 = .ok (.iconst 1, 1) := by decide +kernel
theorem dX4_makeArc_11 : decode cX4_makeArc 11 = .ok (.iadd, 1) := by decide +kernel
theorem dX4_makeArc_12 : decode cX4_makeArc 12 = .ok (.putfield 30, 3) := by decide +kernel
theorem dX4_makeArc_15 : decode cX4_makeArc 15 = .ok (.aload_n 0, 1) := by decide +kernel
theorem dX4_makeArc_16 : decode cX4_makeArc 16 = .ok (.getfield 9, 3) := by decide +kernel
theorem dX4_makeArc_19 : decode cX4_makeArc 19 = .ok (.iload_n 3, 1) := by decide +kernel
theorem dX4_makeArc_20 : decode cX4_makeArc 20 = .ok (.iload_n 1, 1) := by decide +kernel
theorem dX4_makeArc_21 : decode cX4_makeArc 21 = .ok (.iastore, 1) := by decide +kernel
theorem dX4_makeArc_22 : decode cX4_makeArc 22 = .ok (.aload_n 0, 1) := by decide +kernel
theorem dX4_makeArc_23 : decode cX4_makeArc 23 = .ok (.getfield 15, 3) := by decide +kernel
theorem dX4_makeArc_26 : decode cX4_makeArc 26 = .ok (.iload_n 3, 1) := by decide +kernel
theorem dX4_makeArc_27 : decode cX4_makeArc 27 = .ok (.iload_n 2, 1) := by decide +kernel
theorem dX4_makeArc_28 : decode cX4_makeArc 28 = .ok (.iastore, 1) := by decide +kernel
theorem dX4_makeArc_29 : decode cX4_makeArc 29 = .ok (.aload_n 0, 1) := by decide +kernel
theorem dX4_makeArc_30 : decode cX4_makeArc 30 = .ok (.iload_n 3, 1) := by decide +kernel
theorem dX4_makeArc_31 : decode cX4_makeArc 31 = .ok (.iload_n 1, 1) := by decide +kernel
theorem dX4_makeArc_32 : decode cX4_makeArc 32 = .ok (.invokevirtual 33, 3) := by decide +kernel
theorem dX4_makeArc_35 : decode cX4_makeArc 35 = .ok (.aload_n 0, 1) := by decide +kernel
theorem dX4_makeArc_36 : decode cX4_makeArc 36 = .ok (.iload_n 3, 1) := by decide +kernel
theorem dX4_makeArc_37 : decode cX4_makeArc 37 = .ok (.iload_n 2, 1) := by decide +kernel
theorem dX4_makeArc_38 : decode cX4_makeArc 38 = .ok (.invokevirtual 33, 3) := by decide +kernel
theorem dX4_makeArc_41 : decode cX4_makeArc 41 = .ok (.iload_n 3, 1) := by decide +kernel
theorem dX4_makeArc_42 : decode cX4_makeArc 42 = .ok (.ireturn, 1) := by decide +kernel
theorem dX4_attach_0 : decode cX4_attach 0 = .ok (.aload_n 0, 1) := by decide +kernel
theorem dX4_attach_1 : decode cX4_attach 1 = .ok (.getfield 23, 3) := by decide +kernel
theorem dX4_attach_4 : decode cX4_attach 4 = .ok (.iload_n 2, 1) := by decide +kernel
theorem dX4_attach_5 : decode cX4_attach 5 = .ok (.aaload, 1) := by decide +kernel
theorem dX4_attach_6 : decode cX4_attach 6 = .ok (.aload_n 0, 1) := by decide +kernel
theorem dX4_attach_7 : decode cX4_attach 7 = .ok (.getfield 18, 3) := by decide +kernel
theorem dX4_attach_10 : decode cX4_attach 10 = .ok (.iload_n 2, 1) := by decide +kernel
theorem dX4_attach_11 : decode cX4_attach 11 = .ok (.iaload, 1) := by decide +kernel
theorem dX4_attach_12 : decode cX4_attach 12 = .ok (.iload_n 1, 1) := by decide +kernel
theorem dX4_attach_13 : decode cX4_attach 13 = .ok (.iastore, 1) := by decide +kernel
theorem dX4_attach_14 : decode cX4_attach 14 = .ok (.aload_n 0, 1) := by decide +kernel
theorem dX4_attach_15 : decode cX4_attach 15 = .ok (.getfield 18, 3) := by decide +kernel
theorem dX4_attach_18 : decode cX4_attach 18 = .ok (.iload_n 2, 1) := by decide +kernel
theorem dX4_attach_19 : decode cX4_attach 19 = .ok (.dup2, 1) := by decide +kernel
theorem dX4_attach_20 : decode cX4_attach 20 = .ok (.iaload, 1) := by decide +kernel
theorem dX4_attach_21 : decode cX4_attach 21 = .ok (.iconst 1, 1) := by decide +kernel
theorem dX4_attach_22 : decode cX4_attach 22 = .ok (.iadd, 1) := by decide +kernel
theorem dX4_attach_23 : decode cX4_attach 23 = .ok (.iastore, 1) := by decide +kernel
theorem dX4_attach_24 : decode cX4_attach 24 = .ok (.return_, 1) := by decide +kernel
theorem dX4_otherEnd_0 : decode cX4_otherEnd 0 = .ok (.aload_n 0, 1) := by decide +kernel
theorem dX4_otherEnd_1 : decode cX4_otherEnd 1 = .ok (.getfield 9, 3) := by decide +kernel
theorem dX4_otherEnd_4 : decode cX4_otherEnd 4 = .ok (.iload_n 1, 1) := by decide +kernel
theorem dX4_otherEnd_5 : decode cX4_otherEnd 5 = .ok (.iaload, 1) := by decide +kernel
theorem dX4_otherEnd_6 : decode cX4_otherEnd 6 = .ok (.iload_n 2, 1) := by decide +kernel
theorem dX4_otherEnd_7 : decode cX4_otherEnd 7 = .ok (.if_icmp .ne 12, 3) := by decide +kernel
theorem dX4_otherEnd_10 : decode cX4_otherEnd 10 = .ok (.aload_n 0, 1) := by decide +kernel
theorem dX4_otherEnd_11 : decode cX4_otherEnd 11 = .ok (.getfield 15, 3) := by decide +kernel
theorem dX4_otherEnd_14 : decode cX4_otherEnd 14 = .ok (.iload_n 1, 1) := by decide +kernel
theorem dX4_otherEnd_15 : decode cX4_otherEnd 15 = .ok (.iaload, 1) := by decide +kernel
theorem dX4_otherEnd_16 : decode cX4_otherEnd 16 = .ok (.goto 9, 3) := by decide +kernel
theorem dX4_otherEnd_19 : decode cX4_otherEnd 19 = .ok (.aload_n 0, 1) := by decide +kernel
theorem dX4_otherEnd_20 : decode cX4_otherEnd 20 = .ok (.getfield 9, 3) := by decide +kernel
theorem dX4_otherEnd_23 : decode cX4_otherEnd 23 = .ok (.iload_n 1, 1) := by decide +kernel
theorem dX4_otherEnd_24 : decode cX4_otherEnd 24 = .ok (.iaload, 1) := by decide +kernel
theorem dX4_otherEnd_25 : decode cX4_otherEnd 25 = .ok (.ireturn, 1) := by decide +kernel
theorem dX4_allNodes_0 : decode cX4_allNodes 0 = .ok (.iconst 1, 1) := by decide +kernel
theorem dX4_allNodes_1 : decode cX4_allNodes 1 = .ok (.aload_n 0, 1) := by decide +kernel
theorem dX4_allNodes_2 : decode cX4_allNodes 2 = .ok (.getfield 26, 3) := by decide +kernel
theorem dX4_allNodes_5 : decode cX4_allNodes 5 = .ok (.ishl, 1) := by decide +kernel
theorem dX4_allNodes_6 : decode cX4_allNodes 6 = .ok (.iconst 1, 1) := by decide +kernel
theorem dX4_allNodes_7 : decode cX4_allNodes 7 = .ok (.isub, 1) := by decide +kernel
theorem dX4_allNodes_8 : decode cX4_allNodes 8 = .ok (.ireturn, 1) := by decide +kernel
theorem dX5_init_0 : decode cX5_init 0 = .ok (.aload_n 0, 1) := by decide +kernel
theorem dX5_init_1 : decode cX5_init 1 = .ok (.invokespecial 3, 3) := by decide +kernel
theorem dX5_init_4 : decode cX5_init 4 = .ok (.aload_n 0, 1) := by decide +kernel
theorem dX5_init_5 : decode cX5_init 5 = .ok (.bipush 24, 2) := by decide +kernel
theorem dX5_init_7 : decode cX5_init 7 = .ok (.newarray .int, 2) := by decide +kernel
theorem dX5_init_9 : decode cX5_init 9 = .ok (.putfield 9, 3) := by decide +kernel
theorem dX5_init_12 : decode cX5_init 12 = .ok (.aload_n 0, 1) := by decide +kernel
theorem dX5_init_13 : decode cX5_init 13 = .ok (.bipush 24, 2) := by decide +kernel
theorem dX5_init_15 : decode cX5_init 15 = .ok (.newarray .int, 2) := by decide +kernel
theorem dX5_init_17 : decode cX5_init 17 = .ok (.putfield 15, 3) := by decide +kernel
theorem dX5_init_20 : decode cX5_init 20 = .ok (.aload_n 0, 1) := by decide +kernel
theorem dX5_init_21 : decode cX5_init 21 = .ok (.bipush 24, 2) := by decide +kernel
theorem dX5_init_23 : decode cX5_init 23 = .ok (.newarray .int, 2) := by decide +kernel
theorem dX5_init_25 : decode cX5_init 25 = .ok (.putfield 18, 3) := by decide +kernel
theorem dX5_init_28 : decode cX5_init 28 = .ok (.aload_n 0, 1) := by decide +kernel
theorem dX5_init_29 : decode cX5_init 29 = .ok (.aload_n 1, 1) := by decide +kernel
theorem dX5_init_30 : decode cX5_init 30 = .ok (.putfield 21, 3) := by decide +kernel
theorem dX5_init_33 : decode cX5_init 33 = .ok (.aload_n 0, 1) := by decide +kernel
theorem dX5_init_34 : decode cX5_init 34 = .ok (.aload_n 2, 1) := by decide +kernel
theorem dX5_init_35 : decode cX5_init 35 = .ok (.putfield 25, 3) := by decide +kernel
theorem dX5_init_38 : decode cX5_init 38 = .ok (.return_, 1) := by decide +kernel
theorem dX5_route_0 : decode cX5_route 0 = .ok (.iload_n 1, 1) := by decide +kernel
theorem dX5_route_1 : decode cX5_route 1 = .ok (.ifCond .lt 16, 3) := by decide +kernel
theorem dX5_route_4 : decode cX5_route 4 = .ok (.iload_n 2, 1) := by decide +kernel
theorem dX5_route_5 : decode cX5_route 5 = .ok (.ifCond .lt 12, 3) := by decide +kernel
theorem dX5_route_8 : decode cX5_route 8 = .ok (.iload_n 1, 1) := by decide +kernel
theorem dX5_route_9 : decode cX5_route 9 = .ok (.iload_n 2, 1) := by decide +kernel
theorem dX5_route_10 : decode cX5_route 10 = .ok (.if_icmp .eq 7, 3) := by decide +kernel
theorem dX5_route_13 : decode cX5_route 13 = .ok (.iload_n 3, 1) := by decide +kernel
theorem dX5_route_14 : decode cX5_route 14 = .ok (.ifCond .gt 5, 3) := by decide +kernel
theorem dX5_route_17 : decode cX5_route 17 = .ok (.iconst 0, 1) := by decide +kernel
theorem dX5_route_18 : decode cX5_route 18 = .ok (.ireturn, 1) := by decide +kernel
theorem dX5_route_19 : decode cX5_route 19 = .ok (.aload_n 0, 1) := by decide +kernel
theorem dX5_route_20 : decode cX5_route 20 = .ok (.iload_n 1, 1) := by decide +kernel
theorem dX5_route_21 : decode cX5_route 21 = .ok (.putfield 29, 3) := by decide +kernel
theorem dX5_route_24 : decode cX5_route 24 = .ok (.aload_n 0, 1) := by decide +kernel
theorem dX5_route_25 : decode cX5_route 25 = .ok (.iload_n 2, 1) := by decide +kernel
theorem dX5_route_26 : decode cX5_route 26 = .ok (.putfield 33, 3) := by decide +kernel
theorem dX5_route_29 : decode cX5_route 29 = .ok (.aload_n 0, 1) := by decide +kernel
theorem dX5_route_30 : decode cX5_route 30 = .ok (.invokevirtual 36, 3) := by decide +kernel
theorem dX5_route_33 : decode cX5_route 33 = .ok (.aload_n 0, 1) := by decide +kernel
theorem dX5_route_34 : decode cX5_route 34 = .ok (.getfield 9, 3) := by decide +kernel
theorem dX5_route_37 : decode cX5_route 37 = .ok (.iconst 0, 1) := by decide +kernel
theorem dX5_route_38 : decode cX5_route 38 = .ok (.invokestatic 39, 3) := by decide +kernel
theorem dX5_route_41 : decode cX5_route 41 = .ok (.aload_n 0, 1) := by decide +kernel
theorem dX5_route_42 : decode cX5_route 42 = .ok (.getfield 9, 3) := by decide +kernel
theorem dX5_route_45 : decode cX5_route 45 = .ok (.iload_n 1, 1) := by decide +kernel
theorem dX5_route_46 : decode cX5_route 46 = .ok (.iload_n 3, 1) := by decide +kernel
theorem dX5_route_47 : decode cX5_route 47 = .ok (.iastore, 1) := by decide +kernel
theorem dX5_route_48 : decode cX5_route 48 = .ok (.iconst 1, 1) := by decide +kernel
theorem dX5_route_49 : decode cX5_route 49 = .ok (.istore 4, 2) := by decide +kernel
theorem dX5_route_51 : decode cX5_route 51 = .ok (.iconst 0, 1) := by decide +kernel
theorem dX5_route_52 : decode cX5_route 52 = .ok (.istore 5, 2) := by decide +kernel
theorem dX5_route_54 : decode cX5_route 54 = .ok (.iload 5, 2) := by decide +kernel
theorem dX5_route_56 : decode cX5_route 56 = .ok (.ldc 45, 2) := by decide +kernel
theorem dX5_route_58 : decode cX5_route 58 = .ok (.if_icmp .ge 20, 3) := by decide +kernel
theorem dX5_route_61 : decode cX5_route 61 = .ok (.iload 4, 2) := by decide +kernel
theorem dX5_route_63 : decode cX5_route 63 = .ok (.ifCond .eq 15, 3) := by decide +kernel
theorem dX5_route_66 : decode cX5_route 66 = .ok (.aload_n 0, 1) := by decide +kernel
theorem dX5_route_67 : decode cX5_route 67 = .ok (.invokevirtual 46, 3) := by decide +kernel
theorem dX5_route_70 : decode cX5_route 70 = .ok (.istore 4, 2) := by decide +kernel
theorem dX5_route_72 : decode cX5_route 72 = .ok (.iinc 5 1, 3) := by decide +kernel
theorem dX5_route_75 : decode cX5_route 75 = .ok (.goto (-21), 3) := by decide +kernel
theorem dX5_route_78 : decode cX5_route 78 = .ok (.aload_n 0, 1) := by decide +kernel
theorem dX5_route_79 : decode cX5_route 79 = .ok (.getfield 9, 3) := by decide +kernel
theorem dX5_route_82 : decode cX5_route 82 = .ok (.iload_n 2, 1) := by decide +kernel
theorem dX5_route_83 : decode cX5_route 83 = .ok (.iaload, 1) := by decide +kernel
theorem dX5_route_84 : decode cX5_route 84 = .ok (.ireturn, 1) := by decide +kernel
theorem dX5_setHeights_0 : decode cX5_setHeights 0 = .ok (.aload_n 0, 1) := by decide +kernel
theorem dX5_setHeights_1 : decode cX5_setHeights 1 = .ok (.getfield 15, 3) := by decide +kernel
theorem dX5_setHeights_4 : decode cX5_setHeights 4 = .ok (.aload_n 0, 1) := by decide +kernel
theorem dX5_setHeights_5 : decode cX5_setHeights 5 = .ok (.getfield 21, 3) := by decide +kernel
theorem dX5_setHeights_8 : decode cX5_setHeights 8 = .ok (.getfield 50, 3) := by decide +kernel
theorem dX5_setHeights_11 : decode cX5_setHeights 11 = .ok (.invokestatic 39, 3) := by decide +kernel
theorem dX5_setHeights_14 : decode cX5_setHeights 14 = .ok (.aload_n 0, 1) := by decide +kernel
theorem dX5_setHeights_15 : decode cX5_setHeights 15 = .ok (.getfield 15, 3) := by decide +kernel
theorem dX5_setHeights_18 : decode cX5_setHeights 18 = .ok (.aload_n 0, 1) := by decide +kernel
theorem dX5_setHeights_19 : decode cX5_setHeights 19 = .ok (.getfield 33, 3) := by decide +kernel
theorem dX5_setHeights_22 : decode cX5_setHeights 22 = .ok (.iconst 0, 1) := by decide +kernel
theorem dX5_setHeights_23 : decode cX5_setHeights 23 = .ok (.iastore, 1) := by decide +kernel
theorem dX5_setHeights_24 : decode cX5_setHeights 24 = .ok (.aload_n 0, 1) := by decide +kernel
theorem dX5_setHeights_25 : decode cX5_setHeights 25 = .ok (.getfield 18, 3) := by decide +kernel
theorem dX5_setHeights_28 : decode cX5_setHeights 28 = .ok (.iconst 0, 1) := by decide +kernel
theorem dX5_setHeights_29 : decode cX5_setHeights 29 = .ok (.aload_n 0, 1) := by decide +kernel
theorem dX5_setHeights_30 : decode cX5_setHeights 30 = .ok (.getfield 33, 3) := by decide +kernel
theorem dX5_setHeights_33 : decode cX5_setHeights 33 = .ok (.iastore, 1) := by decide +kernel
theorem dX5_setHeights_34 : decode cX5_setHeights 34 = .ok (.iconst 1, 1) := by decide +kernel
theorem dX5_setHeights_35 : decode cX5_setHeights 35 = .ok (.istore_n 1, 1) := by decide +kernel
theorem dX5_setHeights_36 : decode cX5_setHeights 36 = .ok (.iconst 0, 1) := by decide +kernel
theorem dX5_setHeights_37 : decode cX5_setHeights 37 = .ok (.istore_n 2, 1) := by decide +kernel
theorem dX5_setHeights_38 : decode cX5_setHeights 38 = .ok (.iload_n 2, 1) := by decide +kernel
theorem dX5_setHeights_39 : decode cX5_setHeights 39 = .ok (.iload_n 1, 1) := by decide +kernel
theorem dX5_setHeights_40 : decode cX5_setHeights 40 = .ok (.if_icmp .ge 32, 3) := by decide +kernel
theorem dX5_setHeights_43 : decode cX5_setHeights 43 = .ok (.iload_n 1, 1) := by decide +kernel
theorem dX5_setHeights_44 : decode cX5_setHeights 44 = .ok (.aload_n 0, 1) := by decide +kernel
theorem dX5_setHeights_45 : decode cX5_setHeights 45 = .ok (.getfield 21, 3) := by decide +kernel
theorem dX5_setHeights_48 : decode cX5_setHeights 48 = .ok (.getfield 50, 3) := by decide +kernel
theorem dX5_setHeights_51 : decode cX5_setHeights 51 = .ok (.if_icmp .ge 21, 3) := by decide +kernel
theorem dX5_setHeights_54 : decode cX5_setHeights 54 = .ok (.aload_n 0, 1) := by decide +kernel
theorem dX5_setHeights_55 : decode cX5_setHeights 55 = .ok (.aload_n 0, 1) := by decide +kernel
theorem dX5_setHeights_56 : decode cX5_setHeights 56 = .ok (.getfield 18, 3) := by decide +kernel
theorem dX5_setHeights_59 : decode cX5_setHeights 59 = .ok (.iload_n 2, 1) := by decide +kernel
theorem dX5_setHeights_60 : decode cX5_setHeights 60 = .ok (.iaload, 1) := by decide +kernel
theorem dX5_setHeights_61 : decode cX5_setHeights 61 = .ok (.iload_n 1, 1) := by decide +kernel
theorem dX5_setHeights_62 : decode cX5_setHeights 62 = .ok (.invokevirtual 55, 3) := by decide +kernel
theorem dX5_setHeights_65 : decode cX5_setHeights 65 = .ok (.istore_n 1, 1) := by decide +kernel
theorem dX5_setHeights_66 : decode cX5_setHeights 66 = .ok (.iinc 2 1, 3) := by decide +kernel
theorem dX5_setHeights_69 : decode cX5_setHeights 69 = .ok (.goto (-31), 3) := by decide +kernel
theorem dX5_setHeights_72 : decode cX5_setHeights 72 = .ok (.return_, 1) := by decide +kernel
theorem dX5_findBehind_0 : decode cX5_findBehind 0 = .ok (.iload_n 2, 1) := by decide +kernel
theorem dX5_findBehind_1 : decode cX5_findBehind 1 = .ok (.istore_n 3, 1) := by decide +kernel
theorem dX5_findBehind_2 : decode cX5_findBehind 2 = .ok (.iconst 0, 1) := by decide +kernel
theorem dX5_findBehind_3 : decode cX5_findBehind 3 = .ok (.istore 4, 2) := by decide +kernel
theorem dX5_findBehind_5 : decode cX5_findBehind 5 = .ok (.iload 4, 2) := by decide +kernel
theorem dX5_findBehind_7 : decode cX5_findBehind 7 = .ok (.aload_n 0, 1) := by decide +kernel
theorem dX5_findBehind_8 : decode cX5_findBehind 8 = .ok (.getfield 21, 3) := by decide +kernel
theorem dX5_findBehind_11 : decode cX5_findBehind 11 = .ok (.getfield 59, 3) := by decide +kernel
theorem dX5_findBehind_14 : decode cX5_findBehind 14 = .ok (.iload_n 1, 1) := by decide +kernel
theorem dX5_findBehind_15 : decode cX5_findBehind 15 = .ok (.iaload, 1) := by decide +kernel
theorem dX5_findBehind_16 : decode cX5_findBehind 16 = .ok (.if_icmp .ge 110, 3) := by decide +kernel
theorem dX5_findBehind_19 : decode cX5_findBehind 19 = .ok (.aload_n 0, 1) := by decide +kernel
theorem dX5_findBehind_20 : decode cX5_findBehind 20 = .ok (.getfield 21, 3) := by decide +kernel
theorem dX5_findBehind_23 : decode cX5_findBehind 23 = .ok (.getfield 62, 3) := by decide +kernel
theorem dX5_findBehind_26 : decode cX5_findBehind 26 = .ok (.iload_n 1, 1) := by decide +kernel
theorem dX5_findBehind_27 : decode cX5_findBehind 27 = .ok (.aaload, 1) := by decide +kernel
theorem dX5_findBehind_28 : decode cX5_findBehind 28 = .ok (.iload 4, 2) := by decide +kernel
theorem dX5_findBehind_30 : decode cX5_findBehind 30 = .ok (.iaload, 1) := by decide +kernel
theorem dX5_findBehind_31 : decode cX5_findBehind 31 = .ok (.istore 5, 2) := by decide +kernel
theorem dX5_findBehind_33 : decode cX5_findBehind 33 = .ok (.aload_n 0, 1) := by decide +kernel
theorem dX5_findBehind_34 : decode cX5_findBehind 34 = .ok (.getfield 21, 3) := by decide +kernel
theorem dX5_findBehind_37 : decode cX5_findBehind 37 = .ok (.iload 5, 2) := by decide +kernel
theorem dX5_findBehind_39 : decode cX5_findBehind 39 = .ok (.iload_n 1, 1) := by decide +kernel
theorem dX5_findBehind_40 : decode cX5_findBehind 40 = .ok (.invokevirtual 66, 3) := by decide +kernel
theorem dX5_findBehind_43 : decode cX5_findBehind 43 = .ok (.istore 6, 2) := by decide +kernel
theorem dX5_findBehind_45 : decode cX5_findBehind 45 = .ok (.aload_n 0, 1) := by decide +kernel
theorem dX5_findBehind_46 : decode cX5_findBehind 46 = .ok (.getfield 15, 3) := by decide +kernel
theorem dX5_findBehind_49 : decode cX5_findBehind 49 = .ok (.iload 6, 2) := by decide +kernel
theorem dX5_findBehind_51 : decode cX5_findBehind 51 = .ok (.iaload, 1) := by decide +kernel
theorem dX5_findBehind_52 : decode cX5_findBehind 52 = .ok (.aload_n 0, 1) := by decide +kernel
theorem dX5_findBehind_53 : decode cX5_findBehind 53 = .ok (.getfield 21, 3) := by decide +kernel
theorem dX5_findBehind_56 : decode cX5_findBehind 56 = .ok (.getfield 50, 3) := by decide +kernel
theorem dX5_findBehind_59 : decode cX5_findBehind 59 = .ok (.if_icmp .ne 7, 3) := by decide +kernel
theorem dX5_findBehind_62 : decode cX5_findBehind 62 = .ok (.iconst 1, 1) := by decide +kernel
theorem dX5_findBehind_63 : decode cX5_findBehind 63 = .ok (.goto 4, 3) := by decide +kernel
theorem dX5_findBehind_66 : decode cX5_findBehind 66 = .ok (.iconst 0, 1) := by decide +kernel
theorem dX5_findBehind_67 : decode cX5_findBehind 67 = .ok (.istore 7, 2) := by decide +kernel
theorem dX5_findBehind_69 : decode cX5_findBehind 69 = .ok (.iload 7, 2) := by decide +kernel
theorem dX5_findBehind_71 : decode cX5_findBehind 71 = .ok (.ifCond .eq 49, 3) := by decide +kernel
theorem dX5_findBehind_74 : decode cX5_findBehind 74 = .ok (.aload_n 0, 1) := by decide +kernel
theorem dX5_findBehind_75 : decode cX5_findBehind 75 = .ok (.getfield 25, 3) := by decide +kernel
theorem dX5_findBehind_78 : decode cX5_findBehind 78 = .ok (.iload 5, 2) := by decide +kernel
theorem dX5_findBehind_80 : decode cX5_findBehind 80 = .ok (.iload 6, 2) := by decide +kernel
theorem dX5_findBehind_82 : decode cX5_findBehind 82 = .ok (.invokevirtual 69, 3) := by decide +kernel
theorem dX5_findBehind_85 : decode cX5_findBehind 85 = .ok (.ifCond .le 35, 3) := by decide +kernel
theorem dX5_findBehind_88 : decode cX5_findBehind 88 = .ok (.iload_n 3, 1) := by decide +kernel
theorem dX5_findBehind_89 : decode cX5_findBehind 89 = .ok (.bipush 24, 2) := by decide +kernel
theorem dX5_findBehind_91 : decode cX5_findBehind 91 = .ok (.if_icmp .ge 29, 3) := by decide +kernel
theorem dX5_findBehind_94 : decode cX5_findBehind 94 = .ok (.aload_n 0, 1) := by decide +kernel
theorem dX5_findBehind_95 : decode cX5_findBehind 95 = .ok (.getfield 15, 3) := by decide +kernel
theorem dX5_findBehind_98 : decode cX5_findBehind 98 = .ok (.iload 6, 2) := by decide +kernel
theorem dX5_findBehind_100 : decode cX5_findBehind 100 = .ok (.aload_n 0, 1) := by decide +kernel
theorem dX5_findBehind_101 : decode cX5_findBehind 101 = .ok (.getfield 15, 3) := by decide +kernel
theorem dX5_findBehind_104 : decode cX5_findBehind 104 = .ok (.iload_n 1, 1) := by decide +kernel
theorem dX5_findBehind_105 : decode cX5_findBehind 105 = .ok (.iaload, 1) := by decide +kernel
theorem dX5_findBehind_106 : decode cX5_findBehind 106 = .ok (.iconst 1, 1) := by decide +kernel
theorem dX5_findBehind_107 : decode cX5_findBehind 107 = .ok (.iadd, 1) := by decide +kernel
theorem dX5_findBehind_108 : decode cX5_findBehind 108 = .ok (.iastore, 1) := by decide +kernel
theorem dX5_findBehind_109 : decode cX5_findBehind 109 = .ok (.aload_n 0, 1) := by decide +kernel
theorem dX5_findBehind_110 : decode cX5_findBehind 110 = .ok (.getfield 18, 3) := by decide +kernel
theorem dX5_findBehind_113 : decode cX5_findBehind 113 = .ok (.iload_n 3, 1) := by decide +kernel
theorem dX5_findBehind_114 : decode cX5_findBehind 114 = .ok (.iload 6, 2) := by decide +kernel
theorem dX5_findBehind_116 : decode cX5_findBehind 116 = .ok (.iastore, 1) := by decide +kernel
theorem dX5_findBehind_117 : decode cX5_findBehind 117 = .ok (.iinc 3 1, 3) := by decide +kernel
theorem dX5_findBehind_120 : decode cX5_findBehind 120 = .ok (.iinc 4 1, 3) := by decide +kernel
theorem dX5_findBehind_123 : decode cX5_findBehind 123 = .ok (.goto (-118), 3) := by decide +kernel
theorem dX5_findBehind_126 : decode cX5_findBehind 126 = .ok (.iload_n 3, 1) := by decide +kernel
theorem dX5_findBehind_127 : decode cX5_findBehind 127 = .ok (.ireturn, 1) := by decide +kernel
theorem dX5_sweepOnce_0 : decode cX5_sweepOnce 0 = .ok (.iconst 0, 1) := by decide +kernel
theorem dX5_sweepOnce_1 : decode cX5_sweepOnce 1 = .ok (.istore_n 1, 1) := by decide +kernel
theorem dX5_sweepOnce_2 : decode cX5_sweepOnce 2 = .ok (.iconst 0, 1) := by decide +kernel
theorem dX5_sweepOnce_3 : decode cX5_sweepOnce 3 = .ok (.istore_n 2, 1) := by decide +kernel
theorem dX5_sweepOnce_4 : decode cX5_sweepOnce 4 = .ok (.iload_n 2, 1) := by decide +kernel
theorem dX5_sweepOnce_5 : decode cX5_sweepOnce 5 = .ok (.aload_n 0, 1) := by decide +kernel
theorem dX5_sweepOnce_6 : decode cX5_sweepOnce 6 = .ok (.getfield 21, 3) := by decide +kernel
theorem dX5_sweepOnce_9 : decode cX5_sweepOnce 9 = .ok (.getfield 50, 3) := by decide +kernel
theorem dX5_sweepOnce_12 : decode cX5_sweepOnce 12 = .ok (.if_icmp .ge 29, 3) := by decide +kernel
theorem dX5_sweepOnce_15 : decode cX5_sweepOnce 15 = .ok (.aload_n 0, 1) := by decide +kernel
theorem dX5_sweepOnce_16 : decode cX5_sweepOnce 16 = .ok (.iload_n 2, 1) := by decide +kernel
theorem dX5_sweepOnce_17 : decode cX5_sweepOnce 17 = .ok (.invokevirtual 74, 3) := by decide +kernel
theorem dX5_sweepOnce_20 : decode cX5_sweepOnce 20 = .ok (.ifCond .eq 15, 3) := by decide +kernel
theorem dX5_sweepOnce_23 : decode cX5_sweepOnce 23 = .ok (.iconst 1, 1) := by decide +kernel
theorem dX5_sweepOnce_24 : decode cX5_sweepOnce 24 = .ok (.istore_n 1, 1) := by decide +kernel
theorem dX5_sweepOnce_25 : decode cX5_sweepOnce 25 = .ok (.aload_n 0, 1) := by decide +kernel
theorem dX5_sweepOnce_26 : decode cX5_sweepOnce 26 = .ok (.iload_n 2, 1) := by decide +kernel
theorem dX5_sweepOnce_27 : decode cX5_sweepOnce 27 = .ok (.invokevirtual 78, 3) := by decide +kernel
theorem dX5_sweepOnce_30 : decode cX5_sweepOnce 30 = .ok (.aload_n 0, 1) := by decide +kernel
theorem dX5_sweepOnce_31 : decode cX5_sweepOnce 31 = .ok (.iload_n 2, 1) := by decide +kernel
theorem dX5_sweepOnce_32 : decode cX5_sweepOnce 32 = .ok (.invokevirtual 82, 3) := by decide +kernel
theorem dX5_sweepOnce_35 : decode cX5_sweepOnce 35 = .ok (.iinc 2 1, 3) := by decide +kernel
theorem dX5_sweepOnce_38 : decode cX5_sweepOnce 38 = .ok (.goto (-34), 3) := by decide +kernel
theorem dX5_sweepOnce_41 : decode cX5_sweepOnce 41 = .ok (.iload_n 1, 1) := by decide +kernel
theorem dX5_sweepOnce_42 : decode cX5_sweepOnce 42 = .ok (.ireturn, 1) := by decide +kernel
theorem dX5_isActive_0 : decode cX5_isActive 0 = .ok (.aload_n 0, 1) := by decide +kernel
theorem dX5_isActive_1 : decode cX5_isActive 1 = .ok (.getfield 9, 3) := by decide +kernel
theorem dX5_isActive_4 : decode cX5_isActive 4 = .ok (.iload_n 1, 1) := by decide +kernel
theorem dX5_isActive_5 : decode cX5_isActive 5 = .ok (.iaload, 1) := by decide +kernel
theorem dX5_isActive_6 : decode cX5_isActive 6 = .ok (.ifCond .le 39, 3) := by decide +kernel
theorem dX5_isActive_9 : decode cX5_isActive 9 = .ok (.iload_n 1, 1) := by decide +kernel
theorem dX5_isActive_10 : decode cX5_isActive 10 = .ok (.aload_n 0, 1) := by decide +kernel
theorem dX5_isActive_11 : decode cX5_isActive 11 = .ok (.getfield 33, 3) := by decide +kernel
theorem dX5_isActive_14 : decode cX5_isActive 14 = .ok (.if_icmp .eq 31, 3) := by decide +kernel
theorem dX5_isActive_17 : decode cX5_isActive 17 = .ok (.iload_n 1, 1) := by decide +kernel
theorem dX5_isActive_18 : decode cX5_isActive 18 = .ok (.aload_n 0, 1) := by decide +kernel
theorem dX5_isActive_19 : decode cX5_isActive 19 = .ok (.getfield 29, 3) := by decide +kernel
theorem dX5_isActive_22 : decode cX5_isActive 22 = .ok (.if_icmp .ne 19, 3) := by decide +kernel
theorem dX5_isActive_25 : decode cX5_isActive 25 = .ok (.aload_n 0, 1) := by decide +kernel
theorem dX5_isActive_26 : decode cX5_isActive 26 = .ok (.getfield 15, 3) := by decide +kernel
theorem dX5_isActive_29 : decode cX5_isActive 29 = .ok (.iload_n 1, 1) := by decide +kernel
theorem dX5_isActive_30 : decode cX5_isActive 30 = .ok (.iaload, 1) := by decide +kernel
theorem dX5_isActive_31 : decode cX5_isActive 31 = .ok (.aload_n 0, 1) := by decide +kernel
theorem dX5_isActive_32 : decode cX5_isActive 32 = .ok (.getfield 21, 3) := by decide +kernel
theorem dX5_isActive_35 : decode cX5_isActive 35 = .ok (.getfield 50, 3) := by decide +kernel
theorem dX5_isActive_38 : decode cX5_isActive 38 = .ok (.if_icmp .ge 7, 3) := by decide +kernel
theorem dX5_isActive_41 : decode cX5_isActive 41 = .ok (.iconst 1, 1) := by decide +kernel
theorem dX5_isActive_42 : decode cX5_isActive 42 = .ok (.goto 4, 3) := by decide +kernel
theorem dX5_isActive_45 : decode cX5_isActive 45 = .ok (.iconst 0, 1) := by decide +kernel
theorem dX5_isActive_46 : decode cX5_isActive 46 = .ok (.ireturn, 1) := by decide +kernel
theorem dX5_pushOut_0 : decode cX5_pushOut 0 = .ok (.iconst 0, 1) := by decide +kernel
theorem dX5_pushOut_1 : decode cX5_pushOut 1 = .ok (.istore_n 2, 1) := by decide +kernel
theorem dX5_pushOut_2 : decode cX5_pushOut 2 = .ok (.iload_n 2, 1) := by decide +kernel
theorem dX5_pushOut_3 : decode cX5_pushOut 3 = .ok (.aload_n 0, 1) := by decide +kernel
theorem dX5_pushOut_4 : decode cX5_pushOut 4 = .ok (.getfield 21, 3) := by decide +kernel
theorem dX5_pushOut_7 : decode cX5_pushOut 7 = .ok (.getfield 59, 3) := by decide +kernel
theorem dX5_pushOut_10 : decode cX5_pushOut 10 = .ok (.iload_n 1, 1) := by decide +kernel
theorem dX5_pushOut_11 : decode cX5_pushOut 11 = .ok (.iaload, 1) := by decide +kernel
theorem dX5_pushOut_12 : decode cX5_pushOut 12 = .ok (.if_icmp .ge 104, 3) := by decide +kernel
theorem dX5_pushOut_15 : decode cX5_pushOut 15 = .ok (.aload_n 0, 1) := by decide +kernel
theorem dX5_pushOut_16 : decode cX5_pushOut 16 = .ok (.getfield 21, 3) := by decide +kernel
theorem dX5_pushOut_19 : decode cX5_pushOut 19 = .ok (.getfield 62, 3) := by decide +kernel
theorem dX5_pushOut_22 : decode cX5_pushOut 22 = .ok (.iload_n 1, 1) := by decide +kernel
theorem dX5_pushOut_23 : decode cX5_pushOut 23 = .ok (.aaload, 1) := by decide +kernel
theorem dX5_pushOut_24 : decode cX5_pushOut 24 = .ok (.iload_n 2, 1) := by decide +kernel
theorem dX5_pushOut_25 : decode cX5_pushOut 25 = .ok (.iaload, 1) := by decide +kernel
theorem dX5_pushOut_26 : decode cX5_pushOut 26 = .ok (.istore_n 3, 1) := by decide +kernel
theorem dX5_pushOut_27 : decode cX5_pushOut 27 = .ok (.aload_n 0, 1) := by decide +kernel
theorem dX5_pushOut_28 : decode cX5_pushOut 28 = .ok (.getfield 21, 3) := by decide +kernel
theorem dX5_pushOut_31 : decode cX5_pushOut 31 = .ok (.iload_n 3, 1) := by decide +kernel
theorem dX5_pushOut_32 : decode cX5_pushOut 32 = .ok (.iload_n 1, 1) := by decide +kernel
theorem dX5_pushOut_33 : decode cX5_pushOut 33 = .ok (.invokevirtual 66, 3) := by decide +kernel
theorem dX5_pushOut_36 : decode cX5_pushOut 36 = .ok (.istore 4, 2) := by decide +kernel
theorem dX5_pushOut_38 : decode cX5_pushOut 38 = .ok (.aload_n 0, 1) := by decide +kernel
theorem dX5_pushOut_39 : decode cX5_pushOut 39 = .ok (.getfield 15, 3) := by decide +kernel
theorem dX5_pushOut_42 : decode cX5_pushOut 42 = .ok (.iload_n 1, 1) := by decide +kernel
theorem dX5_pushOut_43 : decode cX5_pushOut 43 = .ok (.iaload, 1) := by decide +kernel
theorem dX5_pushOut_44 : decode cX5_pushOut 44 = .ok (.aload_n 0, 1) := by decide +kernel
theorem dX5_pushOut_45 : decode cX5_pushOut 45 = .ok (.getfield 15, 3) := by decide +kernel
theorem dX5_pushOut_48 : decode cX5_pushOut 48 = .ok (.iload 4, 2) := by decide +kernel
theorem dX5_pushOut_50 : decode cX5_pushOut 50 = .ok (.iaload, 1) := by decide +kernel
theorem dX5_pushOut_51 : decode cX5_pushOut 51 = .ok (.iconst 1, 1) := by decide +kernel
theorem dX5_pushOut_52 : decode cX5_pushOut 52 = .ok (.iadd, 1) := by decide +kernel
theorem dX5_pushOut_53 : decode cX5_pushOut 53 = .ok (.if_icmp .ne 57, 3) := by decide +kernel
theorem dX5_pushOut_56 : decode cX5_pushOut 56 = .ok (.aload_n 0, 1) := by decide +kernel
theorem dX5_pushOut_57 : decode cX5_pushOut 57 = .ok (.getfield 9, 3) := by decide +kernel
theorem dX5_pushOut_60 : decode cX5_pushOut 60 = .ok (.iload_n 1, 1) := by decide +kernel
theorem dX5_pushOut_61 : decode cX5_pushOut 61 = .ok (.iaload, 1) := by decide +kernel
theorem dX5_pushOut_62 : decode cX5_pushOut 62 = .ok (.aload_n 0, 1) := by decide +kernel
theorem dX5_pushOut_63 : decode cX5_pushOut 63 = .ok (.getfield 25, 3) := by decide +kernel
theorem dX5_pushOut_66 : decode cX5_pushOut 66 = .ok (.iload_n 3, 1) := by decide +kernel
theorem dX5_pushOut_67 : decode cX5_pushOut 67 = .ok (.iload_n 1, 1) := by decide +kernel
theorem dX5_pushOut_68 : decode cX5_pushOut 68 = .ok (.invokevirtual 69, 3) := by decide +kernel
theorem dX5_pushOut_71 : decode cX5_pushOut 71 = .ok (.invokestatic 85, 3) := by decide +kernel
theorem dX5_pushOut_74 : decode cX5_pushOut 74 = .ok (.istore 5, 2) := by decide +kernel
theorem dX5_pushOut_76 : decode cX5_pushOut 76 = .ok (.aload_n 0, 1) := by decide +kernel
theorem dX5_pushOut_77 : decode cX5_pushOut 77 = .ok (.getfield 25, 3) := by decide +kernel
theorem dX5_pushOut_80 : decode cX5_pushOut 80 = .ok (.iload_n 3, 1) := by decide +kernel
theorem dX5_pushOut_81 : decode cX5_pushOut 81 = .ok (.iload_n 1, 1) := by decide +kernel
theorem dX5_pushOut_82 : decode cX5_pushOut 82 = .ok (.iload 5, 2) := by decide +kernel
theorem dX5_pushOut_84 : decode cX5_pushOut 84 = .ok (.invokevirtual 90, 3) := by decide +kernel
theorem dX5_pushOut_87 : decode cX5_pushOut 87 = .ok (.aload_n 0, 1) := by decide +kernel
theorem dX5_pushOut_88 : decode cX5_pushOut 88 = .ok (.getfield 9, 3) := by decide +kernel
theorem dX5_pushOut_91 : decode cX5_pushOut 91 = .ok (.iload_n 1, 1) := by decide +kernel
theorem dX5_pushOut_92 : decode cX5_pushOut 92 = .ok (.dup2, 1) := by decide +kernel
theorem dX5_pushOut_93 : decode cX5_pushOut 93 = .ok (.iaload, 1) := by decide +kernel
theorem dX5_pushOut_94 : decode cX5_pushOut 94 = .ok (.iload 5, 2) := by decide +kernel
theorem dX5_pushOut_96 : decode cX5_pushOut 96 = .ok (.isub, 1) := by decide +kernel
theorem dX5_pushOut_97 : decode cX5_pushOut 97 = .ok (.iastore, 1) := by decide +kernel
theorem dX5_pushOut_98 : decode cX5_pushOut 98 = .ok (.aload_n 0, 1) := by decide +kernel
theorem dX5_pushOut_99 : decode cX5_pushOut 99 = .ok (.getfield 9, 3) := by decide +kernel
theorem dX5_pushOut_102 : decode cX5_pushOut 102 = .ok (.iload 4, 2) := by decide +kernel
theorem dX5_pushOut_104 : decode cX5_pushOut 104 = .ok (.dup2, 1) := by decide +kernel
theorem dX5_pushOut_105 : decode cX5_pushOut 105 = .ok (.iaload, 1) := by decide +kernel
theorem dX5_pushOut_106 : decode cX5_pushOut 106 = .ok (.iload 5, 2) := by decide +kernel
theorem dX5_pushOut_108 : decode cX5_pushOut 108 = .ok (.iadd, 1) := by decide +kernel
theorem dX5_pushOut_109 : decode cX5_pushOut 109 = .ok (.iastore, 1) := by decide +kernel
theorem dX5_pushOut_110 : decode cX5_pushOut 110 = .ok (.iinc 2 1, 3) := by decide +kernel
theorem dX5_pushOut_113 : decode cX5_pushOut 113 = .ok (.goto (-111), 3) := by decide +kernel
theorem dX5_pushOut_116 : decode cX5_pushOut 116 = .ok (.return_, 1) := by decide +kernel
theorem dX5_lift_0 : decode cX5_lift 0 = .ok (.aload_n 0, 1) := by decide +kernel
theorem dX5_lift_1 : decode cX5_lift 1 = .ok (.getfield 9, 3) := by decide +kernel
theorem dX5_lift_4 : decode cX5_lift 4 = .ok (.iload_n 1, 1) := by decide +kernel
theorem dX5_lift_5 : decode cX5_lift 5 = .ok (.iaload, 1) := by decide +kernel
theorem dX5_lift_6 : decode cX5_lift 6 = .ok (.ifCond .ne 4, 3) := by decide +kernel
theorem dX5_lift_9 : decode cX5_lift 9 = .ok (.return_, 1) := by decide +kernel
theorem dX5_lift_10 : decode cX5_lift 10 = .ok (.bipush 48, 2) := by decide +kernel
theorem dX5_lift_12 : decode cX5_lift 12 = .ok (.istore_n 2, 1) := by decide +kernel
theorem dX5_lift_13 : decode cX5_lift 13 = .ok (.iconst 0, 1) := by decide +kernel
theorem dX5_lift_14 : decode cX5_lift 14 = .ok (.istore_n 3, 1) := by decide +kernel
theorem dX5_lift_15 : decode cX5_lift 15 = .ok (.iload_n 3, 1) := by decide +kernel
theorem dX5_lift_16 : decode cX5_lift 16 = .ok (.aload_n 0, 1) := by decide +kernel
theorem dX5_lift_17 : decode cX5_lift 17 = .ok (.getfield 21, 3) := by decide +kernel
theorem dX5_lift_20 : decode cX5_lift 20 = .ok (.getfield 59, 3) := by decide +kernel
theorem dX5_lift_23 : decode cX5_lift 23 = .ok (.iload_n 1, 1) := by decide +kernel
theorem dX5_lift_24 : decode cX5_lift 24 = .ok (.iaload, 1) := by decide +kernel
theorem dX5_lift_25 : decode cX5_lift 25 = .ok (.if_icmp .ge 55, 3) := by decide +kernel
theorem dX5_lift_28 : decode cX5_lift 28 = .ok (.aload_n 0, 1) := by decide +kernel
theorem dX5_lift_29 : decode cX5_lift 29 = .ok (.getfield 21, 3) := by decide +kernel
theorem dX5_lift_32 : decode cX5_lift 32 = .ok (.getfield 62, 3) := by decide +kernel
theorem dX5_lift_35 : decode cX5_lift 35 = .ok (.iload_n 1, 1) := by decide +kernel
theorem dX5_lift_36 : decode cX5_lift 36 = .ok (.aaload, 1) := by decide +kernel
theorem dX5_lift_37 : decode cX5_lift 37 = .ok (.iload_n 3, 1) := by decide +kernel
theorem dX5_lift_38 : decode cX5_lift 38 = .ok (.iaload, 1) := by decide +kernel
theorem dX5_lift_39 : decode cX5_lift 39 = .ok (.istore 4, 2) := by decide +kernel
theorem dX5_lift_41 : decode cX5_lift 41 = .ok (.aload_n 0, 1) := by decide +kernel
theorem dX5_lift_42 : decode cX5_lift 42 = .ok (.getfield 25, 3) := by decide +kernel
theorem dX5_lift_45 : decode cX5_lift 45 = .ok (.iload 4, 2) := by decide +kernel
theorem dX5_lift_47 : decode cX5_lift 47 = .ok (.iload_n 1, 1) := by decide +kernel
theorem dX5_lift_48 : decode cX5_lift 48 = .ok (.invokevirtual 69, 3) := by decide +kernel
theorem dX5_lift_51 : decode cX5_lift 51 = .ok (.ifCond .le 23, 3) := by decide +kernel
theorem dX5_lift_54 : decode cX5_lift 54 = .ok (.iload_n 2, 1) := by decide +kernel
theorem dX5_lift_55 : decode cX5_lift 55 = .ok (.aload_n 0, 1) := by decide +kernel
theorem dX5_lift_56 : decode cX5_lift 56 = .ok (.getfield 15, 3) := by decide +kernel
theorem dX5_lift_59 : decode cX5_lift 59 = .ok (.aload_n 0, 1) := by decide +kernel
theorem dX5_lift_60 : decode cX5_lift 60 = .ok (.getfield 21, 3) := by decide +kernel
theorem dX5_lift_63 : decode cX5_lift 63 = .ok (.iload 4, 2) := by decide +kernel
theorem dX5_lift_65 : decode cX5_lift 65 = .ok (.iload_n 1, 1) := by decide +kernel
theorem dX5_lift_66 : decode cX5_lift 66 = .ok (.invokevirtual 66, 3) := by decide +kernel
theorem dX5_lift_69 : decode cX5_lift 69 = .ok (.iaload, 1) := by decide +kernel
theorem dX5_lift_70 : decode cX5_lift 70 = .ok (.invokestatic 85, 3) := by decide +kernel
theorem dX5_lift_73 : decode cX5_lift 73 = .ok (.istore_n 2, 1) := by decide +kernel
theorem dX5_lift_74 : decode cX5_lift 74 = .ok (.iinc 3 1, 3) := by decide +kernel
theorem dX5_lift_77 : decode cX5_lift 77 = .ok (.goto (-62), 3) := by decide +kernel
theorem dX5_lift_80 : decode cX5_lift 80 = .ok (.aload_n 0, 1) := by decide +kernel
theorem dX5_lift_81 : decode cX5_lift 81 = .ok (.getfield 15, 3) := by decide +kernel
theorem dX5_lift_84 : decode cX5_lift 84 = .ok (.iload_n 1, 1) := by decide +kernel
theorem dX5_lift_85 : decode cX5_lift 85 = .ok (.iload_n 1, 1) := by decide +kernel
theorem dX5_lift_86 : decode cX5_lift 86 = .ok (.aload_n 0, 1) := by decide +kernel
theorem dX5_lift_87 : decode cX5_lift 87 = .ok (.getfield 29, 3) := by decide +kernel
theorem dX5_lift_90 : decode cX5_lift 90 = .ok (.if_icmp .ne 19, 3) := by decide +kernel
theorem dX5_lift_93 : decode cX5_lift 93 = .ok (.iload_n 2, 1) := by decide +kernel
theorem dX5_lift_94 : decode cX5_lift 94 = .ok (.iconst 1, 1) := by decide +kernel
theorem dX5_lift_95 : decode cX5_lift 95 = .ok (.iadd, 1) := by decide +kernel
theorem dX5_lift_96 : decode cX5_lift 96 = .ok (.aload_n 0, 1) := by decide +kernel
theorem dX5_lift_97 : decode cX5_lift 97 = .ok (.getfield 21, 3) := by decide +kernel
theorem dX5_lift_100 : decode cX5_lift 100 = .ok (.getfield 50, 3) := by decide +kernel
theorem dX5_lift_103 : decode cX5_lift 103 = .ok (.invokestatic 85, 3) := by decide +kernel
theorem dX5_lift_106 : decode cX5_lift 106 = .ok (.goto 6, 3) := by decide +kernel
theorem dX5_lift_109 : decode cX5_lift 109 = .ok (.iload_n 2, 1) := by decide +kernel
theorem dX5_lift_110 : decode cX5_lift 110 = .ok (.iconst 1, 1) := by decide +kernel
theorem dX5_lift_111 : decode cX5_lift 111 = .ok (.iadd, 1) := by decide +kernel
theorem dX5_lift_112 : decode cX5_lift 112 = .ok (.iastore, 1) := by decide +kernel
theorem dX5_lift_113 : decode cX5_lift 113 = .ok (.return_, 1) := by decide +kernel
theorem dX6_init_0 : decode cX6_init 0 = .ok (.aload_n 0, 1) := by decide +kernel
theorem dX6_init_1 : decode cX6_init 1 = .ok (.invokespecial 1, 3) := by decide +kernel
theorem dX6_init_4 : decode cX6_init 4 = .ok (.new 7, 3) := by decide +kernel
theorem dX6_init_7 : decode cX6_init 7 = .ok (.dup, 1) := by decide +kernel
theorem dX6_init_8 : decode cX6_init 8 = .ok (.invokespecial 9, 3) := by decide +kernel
theorem dX6_init_11 : decode cX6_init 11 = .ok (.astore_n 1, 1) := by decide +kernel
theorem dX6_init_12 : decode cX6_init 12 = .ok (.aload_n 0, 1) := by decide +kernel
theorem dX6_init_13 : decode cX6_init 13 = .ok (.aload_n 1, 1) := by decide +kernel
theorem dX6_init_14 : decode cX6_init 14 = .ok (.putfield 10, 3) := by decide +kernel
theorem dX6_init_17 : decode cX6_init 17 = .ok (.aload_n 0, 1) := by decide +kernel
theorem dX6_init_18 : decode cX6_init 18 = .ok (.new 16, 3) := by decide +kernel
theorem dX6_init_21 : decode cX6_init 21 = .ok (.dup, 1) := by decide +kernel
theorem dX6_init_22 : decode cX6_init 22 = .ok (.aload_n 1, 1) := by decide +kernel
theorem dX6_init_23 : decode cX6_init 23 = .ok (.invokespecial 18, 3) := by decide +kernel
theorem dX6_init_26 : decode cX6_init 26 = .ok (.putfield 21, 3) := by decide +kernel
theorem dX6_init_29 : decode cX6_init 29 = .ok (.aload_n 0, 1) := by decide +kernel
theorem dX6_init_30 : decode cX6_init 30 = .ok (.new 16, 3) := by decide +kernel
theorem dX6_init_33 : decode cX6_init 33 = .ok (.dup, 1) := by decide +kernel
theorem dX6_init_34 : decode cX6_init 34 = .ok (.aload_n 1, 1) := by decide +kernel
theorem dX6_init_35 : decode cX6_init 35 = .ok (.invokespecial 18, 3) := by decide +kernel
theorem dX6_init_38 : decode cX6_init 38 = .ok (.putfield 25, 3) := by decide +kernel
theorem dX6_init_41 : decode cX6_init 41 = .ok (.aload_n 0, 1) := by decide +kernel
theorem dX6_init_42 : decode cX6_init 42 = .ok (.new 28, 3) := by decide +kernel
theorem dX6_init_45 : decode cX6_init 45 = .ok (.dup, 1) := by decide +kernel
theorem dX6_init_46 : decode cX6_init 46 = .ok (.invokespecial 30, 3) := by decide +kernel
theorem dX6_init_49 : decode cX6_init 49 = .ok (.putfield 31, 3) := by decide +kernel
theorem dX6_init_52 : decode cX6_init 52 = .ok (.aload_n 0, 1) := by decide +kernel
theorem dX6_init_53 : decode cX6_init 53 = .ok (.new 35, 3) := by decide +kernel
theorem dX6_init_56 : decode cX6_init 56 = .ok (.dup, 1) := by decide +kernel
theorem dX6_init_57 : decode cX6_init 57 = .ok (.invokespecial 37, 3) := by decide +kernel
theorem dX6_init_60 : decode cX6_init 60 = .ok (.putfield 38, 3) := by decide +kernel
theorem dX6_init_63 : decode cX6_init 63 = .ok (.return_, 1) := by decide +kernel
theorem dX6_addNode_0 : decode cX6_addNode 0 = .ok (.aload_n 0, 1) := by decide +kernel
theorem dX6_addNode_1 : decode cX6_addNode 1 = .ok (.getfield 10, 3) := by decide +kernel
theorem dX6_addNode_4 : decode cX6_addNode 4 = .ok (.getfield 42, 3) := by decide +kernel
theorem dX6_addNode_7 : decode cX6_addNode 7 = .ok (.bipush 24, 2) := by decide +kernel
theorem dX6_addNode_9 : decode cX6_addNode 9 = .ok (.if_icmp .lt 13, 3) := by decide +kernel
theorem dX6_addNode_12 : decode cX6_addNode 12 = .ok (.new 46, 3) := by decide +kernel
theorem dX6_addNode_15 : decode cX6_addNode 15 = .ok (.dup, 1) := by decide +kernel
theorem dX6_addNode_16 : decode cX6_addNode 16 = .ok (.ldc 48, 2) := by decide +kernel
theorem dX6_addNode_18 : decode cX6_addNode 18 = .ok (.invokespecial 50, 3) := by decide +kernel
theorem dX6_addNode_21 : decode cX6_addNode 21 = .ok (.athrow, 1) := by decide +kernel
theorem dX6_addNode_22 : decode cX6_addNode 22 = .ok (.aload_n 0, 1) := by decide +kernel
theorem dX6_addNode_23 : decode cX6_addNode 23 = .ok (.getfield 10, 3) := by decide +kernel
theorem dX6_addNode_26 : decode cX6_addNode 26 = .ok (.invokevirtual 53, 3) := by decide +kernel
theorem dX6_addNode_29 : decode cX6_addNode 29 = .ok (.ireturn, 1) := by decide +kernel
theorem dX6_addArc_0 : decode cX6_addArc 0 = .ok (.aload_n 0, 1) := by decide +kernel
theorem dX6_addArc_1 : decode cX6_addArc 1 = .ok (.iload_n 1, 1) := by decide +kernel
theorem dX6_addArc_2 : decode cX6_addArc 2 = .ok (.invokevirtual 57, 3) := by decide +kernel
theorem dX6_addArc_5 : decode cX6_addArc 5 = .ok (.aload_n 0, 1) := by decide +kernel
theorem dX6_addArc_6 : decode cX6_addArc 6 = .ok (.iload_n 2, 1) := by decide +kernel
theorem dX6_addArc_7 : decode cX6_addArc 7 = .ok (.invokevirtual 57, 3) := by decide +kernel
theorem dX6_addArc_10 : decode cX6_addArc 10 = .ok (.iload_n 1, 1) := by decide +kernel
theorem dX6_addArc_11 : decode cX6_addArc 11 = .ok (.iload_n 2, 1) := by decide +kernel
theorem dX6_addArc_12 : decode cX6_addArc 12 = .ok (.invokestatic 61, 3) := by decide +kernel
theorem dX6_addArc_15 : decode cX6_addArc 15 = .ok (.iload_n 3, 1) := by decide +kernel
theorem dX6_addArc_16 : decode cX6_addArc 16 = .ok (.invokestatic 65, 3) := by decide +kernel
theorem dX6_addArc_19 : decode cX6_addArc 19 = .ok (.aload_n 0, 1) := by decide +kernel
theorem dX6_addArc_20 : decode cX6_addArc 20 = .ok (.getfield 10, 3) := by decide +kernel
theorem dX6_addArc_23 : decode cX6_addArc 23 = .ok (.getfield 68, 3) := by decide +kernel
theorem dX6_addArc_26 : decode cX6_addArc 26 = .ok (.bipush 80, 2) := by decide +kernel
theorem dX6_addArc_28 : decode cX6_addArc 28 = .ok (.if_icmp .lt 13, 3) := by decide +kernel
theorem dX6_addArc_31 : decode cX6_addArc 31 = .ok (.new 46, 3) := by decide +kernel
theorem dX6_addArc_34 : decode cX6_addArc 34 = .ok (.dup, 1) := by decide +kernel
theorem dX6_addArc_35 : decode cX6_addArc 35 = .ok (.ldc 71, 2) := by decide +kernel
theorem dX6_addArc_37 : decode cX6_addArc 37 = .ok (.invokespecial 50, 3) := by decide +kernel
theorem dX6_addArc_40 : decode cX6_addArc 40 = .ok (.athrow, 1) := by decide +kernel
theorem dX6_addArc_41 : decode cX6_addArc 41 = .ok (.aload_n 0, 1) := by decide +kernel
theorem dX6_addArc_42 : decode cX6_addArc 42 = .ok (.getfield 10, 3) := by decide +kernel
theorem dX6_addArc_45 : decode cX6_addArc 45 = .ok (.iload_n 1, 1) := by decide +kernel
theorem dX6_addArc_46 : decode cX6_addArc 46 = .ok (.iload_n 2, 1) := by decide +kernel
theorem dX6_addArc_47 : decode cX6_addArc 47 = .ok (.invokevirtual 73, 3) := by decide +kernel
theorem dX6_addArc_50 : decode cX6_addArc 50 = .ok (.istore 4, 2) := by decide +kernel
theorem dX6_addArc_52 : decode cX6_addArc 52 = .ok (.aload_n 0, 1) := by decide +kernel
theorem dX6_addArc_53 : decode cX6_addArc 53 = .ok (.getfield 21, 3) := by decide +kernel
theorem dX6_addArc_56 : decode cX6_addArc 56 = .ok (.iload 4, 2) := by decide +kernel
theorem dX6_addArc_58 : decode cX6_addArc 58 = .ok (.iload_n 3, 1) := by decide +kernel
theorem dX6_addArc_59 : decode cX6_addArc 59 = .ok (.invokevirtual 77, 3) := by decide +kernel
theorem dX6_addArc_62 : decode cX6_addArc 62 = .ok (.iload 4, 2) := by decide +kernel
theorem dX6_addArc_64 : decode cX6_addArc 64 = .ok (.ireturn, 1) := by decide +kernel
theorem dX6_setCapacity_0 : decode cX6_setCapacity 0 = .ok (.aload_n 0, 1) := by decide +kernel
theorem dX6_setCapacity_1 : decode cX6_setCapacity 1 = .ok (.iload_n 1, 1) := by decide +kernel
theorem dX6_setCapacity_2 : decode cX6_setCapacity 2 = .ok (.invokevirtual 80, 3) := by decide +kernel
theorem dX6_setCapacity_5 : decode cX6_setCapacity 5 = .ok (.iload_n 2, 1) := by decide +kernel
theorem dX6_setCapacity_6 : decode cX6_setCapacity 6 = .ok (.invokestatic 65, 3) := by decide +kernel
theorem dX6_setCapacity_9 : decode cX6_setCapacity 9 = .ok (.aload_n 0, 1) := by decide +kernel
theorem dX6_setCapacity_10 : decode cX6_setCapacity 10 = .ok (.getfield 21, 3) := by decide +kernel
theorem dX6_setCapacity_13 : decode cX6_setCapacity 13 = .ok (.getfield 83, 3) := by decide +kernel
theorem dX6_setCapacity_16 : decode cX6_setCapacity 16 = .ok (.getfield 87, 3) := by decide +kernel
theorem dX6_setCapacity_19 : decode cX6_setCapacity 19 = .ok (.iload_n 1, 1) := by decide +kernel
theorem dX6_setCapacity_20 : decode cX6_setCapacity 20 = .ok (.iaload, 1) := by decide +kernel
theorem dX6_setCapacity_21 : decode cX6_setCapacity 21 = .ok (.istore_n 3, 1) := by decide +kernel
theorem dX6_setCapacity_22 : decode cX6_setCapacity 22 = .ok (.aload_n 0, 1) := by decide +kernel
theorem dX6_setCapacity_23 : decode cX6_setCapacity 23 = .ok (.getfield 21, 3) := by decide +kernel
theorem dX6_setCapacity_26 : decode cX6_setCapacity 26 = .ok (.iload_n 1, 1) := by decide +kernel
theorem dX6_setCapacity_27 : decode cX6_setCapacity 27 = .ok (.iload_n 2, 1) := by decide +kernel
theorem dX6_setCapacity_28 : decode cX6_setCapacity 28 = .ok (.invokevirtual 77, 3) := by decide +kernel
theorem dX6_setCapacity_31 : decode cX6_setCapacity 31 = .ok (.iload_n 3, 1) := by decide +kernel
theorem dX6_setCapacity_32 : decode cX6_setCapacity 32 = .ok (.ireturn, 1) := by decide +kernel
theorem dX6_scale_0 : decode cX6_scale 0 = .ok (.aload_n 0, 1) := by decide +kernel
theorem dX6_scale_1 : decode cX6_scale 1 = .ok (.iload_n 1, 1) := by decide +kernel
theorem dX6_scale_2 : decode cX6_scale 2 = .ok (.invokevirtual 57, 3) := by decide +kernel
theorem dX6_scale_5 : decode cX6_scale 5 = .ok (.dload_n 2, 1) := by decide +kernel
theorem dX6_scale_6 : decode cX6_scale 6 = .ok (.invokestatic 93, 3) := by decide +kernel
theorem dX6_scale_9 : decode cX6_scale 9 = .ok (.iconst 0, 1) := by decide +kernel
theorem dX6_scale_10 : decode cX6_scale 10 = .ok (.istore 4, 2) := by decide +kernel
theorem dX6_scale_12 : decode cX6_scale 12 = .ok (.iconst 0, 1) := by decide +kernel
theorem dX6_scale_13 : decode cX6_scale 13 = .ok (.istore 5, 2) := by decide +kernel
theorem dX6_scale_15 : decode cX6_scale 15 = .ok (.iload 5, 2) := by decide +kernel
theorem dX6_scale_17 : decode cX6_scale 17 = .ok (.aload_n 0, 1) := by decide +kernel
theorem dX6_scale_18 : decode cX6_scale 18 = .ok (.getfield 10, 3) := by decide +kernel
theorem dX6_scale_21 : decode cX6_scale 21 = .ok (.getfield 68, 3) := by decide +kernel
theorem dX6_scale_24 : decode cX6_scale 24 = .ok (.if_icmp .ge 67, 3) := by decide +kernel
theorem dX6_scale_27 : decode cX6_scale 27 = .ok (.aload_n 0, 1) := by decide +kernel
theorem dX6_scale_28 : decode cX6_scale 28 = .ok (.getfield 21, 3) := by decide +kernel
theorem dX6_scale_31 : decode cX6_scale 31 = .ok (.getfield 83, 3) := by decide +kernel
theorem dX6_scale_34 : decode cX6_scale 34 = .ok (.getfield 87, 3) := by decide +kernel
theorem dX6_scale_37 : decode cX6_scale 37 = .ok (.iload 5, 2) := by decide +kernel
theorem dX6_scale_39 : decode cX6_scale 39 = .ok (.iaload, 1) := by decide +kernel
theorem dX6_scale_40 : decode cX6_scale 40 = .ok (.istore 6, 2) := by decide +kernel
theorem dX6_scale_42 : decode cX6_scale 42 = .ok (.iload 6, 2) := by decide +kernel
theorem dX6_scale_44 : decode cX6_scale 44 = .ok (.dload_n 2, 1) := by decide +kernel
theorem dX6_scale_45 : decode cX6_scale 45 = .ok (.invokestatic 97, 3) := by decide +kernel
theorem dX6_scale_48 : decode cX6_scale 48 = .ok (.istore 7, 2) := by decide +kernel
theorem dX6_scale_50 : decode cX6_scale 50 = .ok (.aload_n 0, 1) := by decide +kernel
theorem dX6_scale_51 : decode cX6_scale 51 = .ok (.getfield 10, 3) := by decide +kernel
theorem dX6_scale_54 : decode cX6_scale 54 = .ok (.getfield 101, 3) := by decide +kernel
theorem dX6_scale_57 : decode cX6_scale 57 = .ok (.iload 5, 2) := by decide +kernel
theorem dX6_scale_59 : decode cX6_scale 59 = .ok (.iaload, 1) := by decide +kernel
theorem dX6_scale_60 : decode cX6_scale 60 = .ok (.iload_n 1, 1) := by decide +kernel
theorem dX6_scale_61 : decode cX6_scale 61 = .ok (.if_icmp .ne 24, 3) := by decide +kernel
theorem dX6_scale_64 : decode cX6_scale 64 = .ok (.iload 7, 2) := by decide +kernel
theorem dX6_scale_66 : decode cX6_scale 66 = .ok (.iload 6, 2) := by decide +kernel
theorem dX6_scale_68 : decode cX6_scale 68 = .ok (.if_icmp .eq 17, 3) := by decide +kernel
theorem dX6_scale_71 : decode cX6_scale 71 = .ok (.aload_n 0, 1) := by decide +kernel
theorem dX6_scale_72 : decode cX6_scale 72 = .ok (.getfield 21, 3) := by decide +kernel
theorem dX6_scale_75 : decode cX6_scale 75 = .ok (.iload 5, 2) := by decide +kernel
theorem dX6_scale_77 : decode cX6_scale 77 = .ok (.iload 7, 2) := by decide +kernel
theorem dX6_scale_79 : decode cX6_scale 79 = .ok (.invokevirtual 77, 3) := by decide +kernel
theorem dX6_scale_82 : decode cX6_scale 82 = .ok (.iinc 4 1, 3) := by decide +kernel
theorem dX6_scale_85 : decode cX6_scale 85 = .ok (.iinc 5 1, 3) := by decide +kernel
theorem dX6_scale_88 : decode cX6_scale 88 = .ok (.goto (-73), 3) := by decide +kernel
theorem dX6_scale_91 : decode cX6_scale 91 = .ok (.iload 4, 2) := by decide +kernel
theorem dX6_scale_93 : decode cX6_scale 93 = .ok (.ireturn, 1) := by decide +kernel
theorem dX6_setEnds_0 : decode cX6_setEnds 0 = .ok (.aload_n 0, 1) := by decide +kernel
theorem dX6_setEnds_1 : decode cX6_setEnds 1 = .ok (.iload_n 1, 1) := by decide +kernel
theorem dX6_setEnds_2 : decode cX6_setEnds 2 = .ok (.invokevirtual 57, 3) := by decide +kernel
theorem dX6_setEnds_5 : decode cX6_setEnds 5 = .ok (.aload_n 0, 1) := by decide +kernel
theorem dX6_setEnds_6 : decode cX6_setEnds 6 = .ok (.iload_n 2, 1) := by decide +kernel
theorem dX6_setEnds_7 : decode cX6_setEnds 7 = .ok (.invokevirtual 57, 3) := by decide +kernel
theorem dX6_setEnds_10 : decode cX6_setEnds 10 = .ok (.iload_n 1, 1) := by decide +kernel
theorem dX6_setEnds_11 : decode cX6_setEnds 11 = .ok (.iload_n 2, 1) := by decide +kernel
theorem dX6_setEnds_12 : decode cX6_setEnds 12 = .ok (.invokestatic 61, 3) := by decide +kernel
theorem dX6_setEnds_15 : decode cX6_setEnds 15 = .ok (.aload_n 0, 1) := by decide +kernel
theorem dX6_setEnds_16 : decode cX6_setEnds 16 = .ok (.getfield 21, 3) := by decide +kernel
theorem dX6_setEnds_19 : decode cX6_setEnds 19 = .ok (.iload_n 1, 1) := by decide +kernel
theorem dX6_setEnds_20 : decode cX6_setEnds 20 = .ok (.iload_n 2, 1) := by decide +kernel
theorem dX6_setEnds_21 : decode cX6_setEnds 21 = .ok (.invokevirtual 104, 3) := by decide +kernel
theorem dX6_setEnds_24 : decode cX6_setEnds 24 = .ok (.ireturn, 1) := by decide +kernel
theorem dX6_maximum_0 : decode cX6_maximum 0 = .ok (.aload_n 0, 1) := by decide +kernel
theorem dX6_maximum_1 : decode cX6_maximum 1 = .ok (.invokevirtual 108, 3) := by decide +kernel
theorem dX6_maximum_4 : decode cX6_maximum 4 = .ok (.aload_n 0, 1) := by decide +kernel
theorem dX6_maximum_5 : decode cX6_maximum 5 = .ok (.getfield 21, 3) := by decide +kernel
theorem dX6_maximum_8 : decode cX6_maximum 8 = .ok (.invokevirtual 111, 3) := by decide +kernel
theorem dX6_maximum_11 : decode cX6_maximum 11 = .ok (.ireturn, 1) := by decide +kernel
theorem dX6_maximumWith_0 : decode cX6_maximumWith 0 = .ok (.aload_n 0, 1) := by decide +kernel
theorem dX6_maximumWith_1 : decode cX6_maximumWith 1 = .ok (.invokevirtual 108, 3) := by decide +kernel
theorem dX6_maximumWith_4 : decode cX6_maximumWith 4 = .ok (.aload_n 0, 1) := by decide +kernel
theorem dX6_maximumWith_5 : decode cX6_maximumWith 5 = .ok (.iload_n 1, 1) := by decide +kernel
theorem dX6_maximumWith_6 : decode cX6_maximumWith 6 = .ok (.invokevirtual 80, 3) := by decide +kernel
theorem dX6_maximumWith_9 : decode cX6_maximumWith 9 = .ok (.iload_n 2, 1) := by decide +kernel
theorem dX6_maximumWith_10 : decode cX6_maximumWith 10 = .ok (.invokestatic 65, 3) := by decide +kernel
theorem dX6_maximumWith_13 : decode cX6_maximumWith 13 = .ok (.aload_n 0, 1) := by decide +kernel
theorem dX6_maximumWith_14 : decode cX6_maximumWith 14 = .ok (.getfield 25, 3) := by decide +kernel
theorem dX6_maximumWith_17 : decode cX6_maximumWith 17 = .ok (.aload_n 0, 1) := by decide +kernel
theorem dX6_maximumWith_18 : decode cX6_maximumWith 18 = .ok (.getfield 21, 3) := by decide +kernel
theorem dX6_maximumWith_21 : decode cX6_maximumWith 21 = .ok (.invokevirtual 114, 3) := by decide +kernel
theorem dX6_maximumWith_24 : decode cX6_maximumWith 24 = .ok (.aload_n 0, 1) := by decide +kernel
theorem dX6_maximumWith_25 : decode cX6_maximumWith 25 = .ok (.getfield 25, 3) := by decide +kernel
theorem dX6_maximumWith_28 : decode cX6_maximumWith 28 = .ok (.iload_n 1, 1) := by decide +kernel
theorem dX6_maximumWith_29 : decode cX6_maximumWith 29 = .ok (.iload_n 2, 1) := by decide +kernel
theorem dX6_maximumWith_30 : decode cX6_maximumWith 30 = .ok (.invokevirtual 77, 3) := by decide +kernel
theorem dX6_maximumWith_33 : decode cX6_maximumWith 33 = .ok (.aload_n 0, 1) := by decide +kernel
theorem dX6_maximumWith_34 : decode cX6_maximumWith 34 = .ok (.getfield 25, 3) := by decide +kernel
theorem dX6_maximumWith_37 : decode cX6_maximumWith 37 = .ok (.invokevirtual 111, 3) := by decide +kernel
theorem dX6_maximumWith_40 : decode cX6_maximumWith 40 = .ok (.ireturn, 1) := by decide +kernel
theorem dX6_maximumBetween_0 : decode cX6_maximumBetween 0 = .ok (.aload_n 0, 1) := by decide +kernel
theorem dX6_maximumBetween_1 : decode cX6_maximumBetween 1 = .ok (.iload_n 1, 1) := by decide +kernel
theorem dX6_maximumBetween_2 : decode cX6_maximumBetween 2 = .ok (.invokevirtual 57, 3) := by decide +kernel
theorem dX6_maximumBetween_5 : decode cX6_maximumBetween 5 = .ok (.aload_n 0, 1) := by decide +kernel
theorem dX6_maximumBetween_6 : decode cX6_maximumBetween 6 = .ok (.iload_n 2, 1) := by decide +kernel
theorem dX6_maximumBetween_7 : decode cX6_maximumBetween 7 = .ok (.invokevirtual 57, 3) := by decide +kernel
theorem dX6_maximumBetween_10 : decode cX6_maximumBetween 10 = .ok (.iload_n 1, 1) := by decide +kernel
theorem dX6_maximumBetween_11 : decode cX6_maximumBetween 11 = .ok (.iload_n 2, 1) := by decide +kernel
theorem dX6_maximumBetween_12 : decode cX6_maximumBetween 12 = .ok (.invokestatic 61, 3) := by decide +kernel
theorem dX6_maximumBetween_15 : decode cX6_maximumBetween 15 = .ok (.aload_n 0, 1) := by decide +kernel
theorem dX6_maximumBetween_16 : decode cX6_maximumBetween 16 = .ok (.getfield 25, 3) := by decide +kernel
theorem dX6_maximumBetween_19 : decode cX6_maximumBetween 19 = .ok (.aload_n 0, 1) := by decide +kernel
theorem dX6_maximumBetween_20 : decode cX6_maximumBetween 20 = .ok (.getfield 21, 3) := by decide +kernel
theorem dX6_maximumBetween_23 : decode cX6_maximumBetween 23 = .ok (.invokevirtual 114, 3) := by decide +kernel
theorem dX6_maximumBetween_26 : decode cX6_maximumBetween 26 = .ok (.aload_n 0, 1) := by decide +kernel
theorem dX6_maximumBetween_27 : decode cX6_maximumBetween 27 = .ok (.getfield 25, 3) := by decide +kernel
theorem dX6_maximumBetween_30 : decode cX6_maximumBetween 30 = .ok (.iload_n 1, 1) := by decide +kernel
theorem dX6_maximumBetween_31 : decode cX6_maximumBetween 31 = .ok (.iload_n 2, 1) := by decide +kernel
theorem dX6_maximumBetween_32 : decode cX6_maximumBetween 32 = .ok (.invokevirtual 104, 3) := by decide +kernel
theorem dX6_maximumBetween_35 : decode cX6_maximumBetween 35 = .ok (.pop, 1) := by decide +kernel
theorem dX6_maximumBetween_36 : decode cX6_maximumBetween 36 = .ok (.aload_n 0, 1) := by decide +kernel
theorem dX6_maximumBetween_37 : decode cX6_maximumBetween 37 = .ok (.getfield 25, 3) := by decide +kernel
theorem dX6_maximumBetween_40 : decode cX6_maximumBetween 40 = .ok (.invokevirtual 111, 3) := by decide +kernel
theorem dX6_maximumBetween_43 : decode cX6_maximumBetween 43 = .ok (.ireturn, 1) := by decide +kernel
theorem dX6_leastFlow_0 : decode cX6_leastFlow 0 = .ok (.aload_n 0, 1) := by decide +kernel
theorem dX6_leastFlow_1 : decode cX6_leastFlow 1 = .ok (.invokevirtual 108, 3) := by decide +kernel
theorem dX6_leastFlow_4 : decode cX6_leastFlow 4 = .ok (.aload_n 0, 1) := by decide +kernel
theorem dX6_leastFlow_5 : decode cX6_leastFlow 5 = .ok (.iload_n 1, 1) := by decide +kernel
theorem dX6_leastFlow_6 : decode cX6_leastFlow 6 = .ok (.invokevirtual 80, 3) := by decide +kernel
theorem dX6_leastFlow_9 : decode cX6_leastFlow 9 = .ok (.aload_n 0, 1) := by decide +kernel
theorem dX6_leastFlow_10 : decode cX6_leastFlow 10 = .ok (.getfield 21, 3) := by decide +kernel
theorem dX6_leastFlow_13 : decode cX6_leastFlow 13 = .ok (.invokevirtual 128, 3) := by decide +kernel
theorem dX6_leastFlow_16 : decode cX6_leastFlow 16 = .ok (.aload_n 0, 1) := by decide +kernel
theorem dX6_leastFlow_17 : decode cX6_leastFlow 17 = .ok (.getfield 10, 3) := by decide +kernel
theorem dX6_leastFlow_20 : decode cX6_leastFlow 20 = .ok (.getfield 101, 3) := by decide +kernel
theorem dX6_leastFlow_23 : decode cX6_leastFlow 23 = .ok (.iload_n 1, 1) := by decide +kernel
theorem dX6_leastFlow_24 : decode cX6_leastFlow 24 = .ok (.iaload, 1) := by decide +kernel
theorem dX6_leastFlow_25 : decode cX6_leastFlow 25 = .ok (.istore_n 2, 1) := by decide +kernel
theorem dX6_leastFlow_26 : decode cX6_leastFlow 26 = .ok (.aload_n 0, 1) := by decide +kernel
theorem dX6_leastFlow_27 : decode cX6_leastFlow 27 = .ok (.getfield 21, 3) := by decide +kernel
theorem dX6_leastFlow_30 : decode cX6_leastFlow 30 = .ok (.getfield 83, 3) := by decide +kernel
theorem dX6_leastFlow_33 : decode cX6_leastFlow 33 = .ok (.getfield 131, 3) := by decide +kernel
theorem dX6_leastFlow_36 : decode cX6_leastFlow 36 = .ok (.iload_n 1, 1) := by decide +kernel
theorem dX6_leastFlow_37 : decode cX6_leastFlow 37 = .ok (.iaload, 1) := by decide +kernel
theorem dX6_leastFlow_38 : decode cX6_leastFlow 38 = .ok (.istore_n 3, 1) := by decide +kernel
theorem dX6_leastFlow_39 : decode cX6_leastFlow 39 = .ok (.iload_n 3, 1) := by decide +kernel
theorem dX6_leastFlow_40 : decode cX6_leastFlow 40 = .ok (.aload_n 0, 1) := by decide +kernel
theorem dX6_leastFlow_41 : decode cX6_leastFlow 41 = .ok (.iload_n 1, 1) := by decide +kernel
theorem dX6_leastFlow_42 : decode cX6_leastFlow 42 = .ok (.iload_n 2, 1) := by decide +kernel
theorem dX6_leastFlow_43 : decode cX6_leastFlow 43 = .ok (.iload_n 3, 1) := by decide +kernel
theorem dX6_leastFlow_44 : decode cX6_leastFlow 44 = .ok (.invokevirtual 134, 3) := by decide +kernel
theorem dX6_leastFlow_47 : decode cX6_leastFlow 47 = .ok (.isub, 1) := by decide +kernel
theorem dX6_leastFlow_48 : decode cX6_leastFlow 48 = .ok (.ireturn, 1) := by decide +kernel
theorem dX6_greatestFlow_0 : decode cX6_greatestFlow 0 = .ok (.aload_n 0, 1) := by decide +kernel
theorem dX6_greatestFlow_1 : decode cX6_greatestFlow 1 = .ok (.invokevirtual 108, 3) := by decide +kernel
theorem dX6_greatestFlow_4 : decode cX6_greatestFlow 4 = .ok (.aload_n 0, 1) := by decide +kernel
theorem dX6_greatestFlow_5 : decode cX6_greatestFlow 5 = .ok (.iload_n 1, 1) := by decide +kernel
theorem dX6_greatestFlow_6 : decode cX6_greatestFlow 6 = .ok (.invokevirtual 80, 3) := by decide +kernel
theorem dX6_greatestFlow_9 : decode cX6_greatestFlow 9 = .ok (.aload_n 0, 1) := by decide +kernel
theorem dX6_greatestFlow_10 : decode cX6_greatestFlow 10 = .ok (.getfield 21, 3) := by decide +kernel
theorem dX6_greatestFlow_13 : decode cX6_greatestFlow 13 = .ok (.invokevirtual 128, 3) := by decide +kernel
theorem dX6_greatestFlow_16 : decode cX6_greatestFlow 16 = .ok (.aload_n 0, 1) := by decide +kernel
theorem dX6_greatestFlow_17 : decode cX6_greatestFlow 17 = .ok (.getfield 10, 3) := by decide +kernel
theorem dX6_greatestFlow_20 : decode cX6_greatestFlow 20 = .ok (.getfield 101, 3) := by decide +kernel
theorem dX6_greatestFlow_23 : decode cX6_greatestFlow 23 = .ok (.iload_n 1, 1) := by decide +kernel
theorem dX6_greatestFlow_24 : decode cX6_greatestFlow 24 = .ok (.iaload, 1) := by decide +kernel
theorem dX6_greatestFlow_25 : decode cX6_greatestFlow 25 = .ok (.istore_n 2, 1) := by decide +kernel
theorem dX6_greatestFlow_26 : decode cX6_greatestFlow 26 = .ok (.aload_n 0, 1) := by decide +kernel
theorem dX6_greatestFlow_27 : decode cX6_greatestFlow 27 = .ok (.getfield 10, 3) := by decide +kernel
theorem dX6_greatestFlow_30 : decode cX6_greatestFlow 30 = .ok (.getfield 118, 3) := by decide +kernel
theorem dX6_greatestFlow_33 : decode cX6_greatestFlow 33 = .ok (.iload_n 1, 1) := by decide +kernel
theorem dX6_greatestFlow_34 : decode cX6_greatestFlow 34 = .ok (.iaload, 1) := by decide +kernel
theorem dX6_greatestFlow_35 : decode cX6_greatestFlow 35 = .ok (.istore_n 3, 1) := by decide +kernel
theorem dX6_greatestFlow_36 : decode cX6_greatestFlow 36 = .ok (.aload_n 0, 1) := by decide +kernel
theorem dX6_greatestFlow_37 : decode cX6_greatestFlow 37 = .ok (.getfield 21, 3) := by decide +kernel
theorem dX6_greatestFlow_40 : decode cX6_greatestFlow 40 = .ok (.getfield 83, 3) := by decide +kernel
theorem dX6_greatestFlow_43 : decode cX6_greatestFlow 43 = .ok (.getfield 131, 3) := by decide +kernel
theorem dX6_greatestFlow_46 : decode cX6_greatestFlow 46 = .ok (.iload_n 1, 1) := by decide +kernel
theorem dX6_greatestFlow_47 : decode cX6_greatestFlow 47 = .ok (.iaload, 1) := by decide +kernel
theorem dX6_greatestFlow_48 : decode cX6_greatestFlow 48 = .ok (.aload_n 0, 1) := by decide +kernel
theorem dX6_greatestFlow_49 : decode cX6_greatestFlow 49 = .ok (.iload_n 1, 1) := by decide +kernel
theorem dX6_greatestFlow_50 : decode cX6_greatestFlow 50 = .ok (.iload_n 3, 1) := by decide +kernel
theorem dX6_greatestFlow_51 : decode cX6_greatestFlow 51 = .ok (.aload_n 0, 1) := by decide +kernel
theorem dX6_greatestFlow_52 : decode cX6_greatestFlow 52 = .ok (.getfield 21, 3) := by decide +kernel
theorem dX6_greatestFlow_55 : decode cX6_greatestFlow 55 = .ok (.getfield 83, 3) := by decide +kernel
theorem dX6_greatestFlow_58 : decode cX6_greatestFlow 58 = .ok (.iload_n 1, 1) := by decide +kernel
theorem dX6_greatestFlow_59 : decode cX6_greatestFlow 59 = .ok (.iload_n 2, 1) := by decide +kernel
theorem dX6_greatestFlow_60 : decode cX6_greatestFlow 60 = .ok (.invokevirtual 138, 3) := by decide +kernel
theorem dX6_greatestFlow_63 : decode cX6_greatestFlow 63 = .ok (.invokevirtual 134, 3) := by decide +kernel
theorem dX6_greatestFlow_66 : decode cX6_greatestFlow 66 = .ok (.iadd, 1) := by decide +kernel
theorem dX6_greatestFlow_67 : decode cX6_greatestFlow 67 = .ok (.ireturn, 1) := by decide +kernel
theorem dX6_cutCapacity_0 : decode cX6_cutCapacity 0 = .ok (.aload_n 0, 1) := by decide +kernel
theorem dX6_cutCapacity_1 : decode cX6_cutCapacity 1 = .ok (.invokevirtual 108, 3) := by decide +kernel
theorem dX6_cutCapacity_4 : decode cX6_cutCapacity 4 = .ok (.aload_n 0, 1) := by decide +kernel
theorem dX6_cutCapacity_5 : decode cX6_cutCapacity 5 = .ok (.iload_n 1, 1) := by decide +kernel
theorem dX6_cutCapacity_6 : decode cX6_cutCapacity 6 = .ok (.invokevirtual 141, 3) := by decide +kernel
theorem dX6_cutCapacity_9 : decode cX6_cutCapacity 9 = .ok (.ifCond .ne 13, 3) := by decide +kernel
theorem dX6_cutCapacity_12 : decode cX6_cutCapacity 12 = .ok (.new 145, 3) := by decide +kernel
theorem dX6_cutCapacity_15 : decode cX6_cutCapacity 15 = .ok (.dup, 1) := by decide +kernel
theorem dX6_cutCapacity_16 : decode cX6_cutCapacity 16 = .ok (.ldc 147, 2) := by decide +kernel
theorem dX6_cutCapacity_18 : decode cX6_cutCapacity 18 = .ok (.invokespecial 149, 3) := by decide +kernel
theorem dX6_cutCapacity_21 : decode cX6_cutCapacity 21 = .ok (.athrow, 1) := by decide +kernel
theorem dX6_cutCapacity_22 : decode cX6_cutCapacity 22 = .ok (.aload_n 0, 1) := by decide +kernel
theorem dX6_cutCapacity_23 : decode cX6_cutCapacity 23 = .ok (.getfield 21, 3) := by decide +kernel
theorem dX6_cutCapacity_26 : decode cX6_cutCapacity 26 = .ok (.getfield 83, 3) := by decide +kernel
theorem dX6_cutCapacity_29 : decode cX6_cutCapacity 29 = .ok (.iload_n 1, 1) := by decide +kernel
theorem dX6_cutCapacity_30 : decode cX6_cutCapacity 30 = .ok (.invokevirtual 124, 3) := by decide +kernel
theorem dX6_cutCapacity_33 : decode cX6_cutCapacity 33 = .ok (.ireturn, 1) := by decide +kernel
theorem dX6_smallestCut_0 : decode cX6_smallestCut 0 = .ok (.aload_n 0, 1) := by decide +kernel
theorem dX6_smallestCut_1 : decode cX6_smallestCut 1 = .ok (.invokevirtual 108, 3) := by decide +kernel
theorem dX6_smallestCut_4 : decode cX6_smallestCut 4 = .ok (.aload_n 0, 1) := by decide +kernel
theorem dX6_smallestCut_5 : decode cX6_smallestCut 5 = .ok (.getfield 21, 3) := by decide +kernel
theorem dX6_smallestCut_8 : decode cX6_smallestCut 8 = .ok (.invokevirtual 150, 3) := by decide +kernel
theorem dX6_smallestCut_11 : decode cX6_smallestCut 11 = .ok (.ireturn, 1) := by decide +kernel
theorem dX6_greatestCut_0 : decode cX6_greatestCut 0 = .ok (.aload_n 0, 1) := by decide +kernel
theorem dX6_greatestCut_1 : decode cX6_greatestCut 1 = .ok (.invokevirtual 108, 3) := by decide +kernel
theorem dX6_greatestCut_4 : decode cX6_greatestCut 4 = .ok (.aload_n 0, 1) := by decide +kernel
theorem dX6_greatestCut_5 : decode cX6_greatestCut 5 = .ok (.getfield 21, 3) := by decide +kernel
theorem dX6_greatestCut_8 : decode cX6_greatestCut 8 = .ok (.invokevirtual 153, 3) := by decide +kernel
theorem dX6_greatestCut_11 : decode cX6_greatestCut 11 = .ok (.ireturn, 1) := by decide +kernel
theorem dX6_requireEnds_0 : decode cX6_requireEnds 0 = .ok (.aload_n 0, 1) := by decide +kernel
theorem dX6_requireEnds_1 : decode cX6_requireEnds 1 = .ok (.getfield 21, 3) := by decide +kernel
theorem dX6_requireEnds_4 : decode cX6_requireEnds 4 = .ok (.invokevirtual 199, 3) := by decide +kernel
theorem dX6_requireEnds_7 : decode cX6_requireEnds 7 = .ok (.ifCond .ne 13, 3) := by decide +kernel
theorem dX6_requireEnds_10 : decode cX6_requireEnds 10 = .ok (.new 46, 3) := by decide +kernel
theorem dX6_requireEnds_13 : decode cX6_requireEnds 13 = .ok (.dup, 1) := by decide +kernel
theorem dX6_requireEnds_14 : decode cX6_requireEnds 14 = .ok (.ldc 203, 2) := by decide +kernel
theorem dX6_requireEnds_16 : decode cX6_requireEnds 16 = .ok (.invokespecial 50, 3) := by decide +kernel
theorem dX6_requireEnds_19 : decode cX6_requireEnds 19 = .ok (.athrow, 1) := by decide +kernel
theorem dX6_requireEnds_20 : decode cX6_requireEnds 20 = .ok (.return_, 1) := by decide +kernel
theorem dX6_requireNode_0 : decode cX6_requireNode 0 = .ok (.iload_n 1, 1) := by decide +kernel
theorem dX6_requireNode_1 : decode cX6_requireNode 1 = .ok (.ifCond .lt 14, 3) := by decide +kernel
theorem dX6_requireNode_4 : decode cX6_requireNode 4 = .ok (.iload_n 1, 1) := by decide +kernel
theorem dX6_requireNode_5 : decode cX6_requireNode 5 = .ok (.aload_n 0, 1) := by decide +kernel
theorem dX6_requireNode_6 : decode cX6_requireNode 6 = .ok (.getfield 10, 3) := by decide +kernel
theorem dX6_requireNode_9 : decode cX6_requireNode 9 = .ok (.getfield 42, 3) := by decide +kernel
theorem dX6_requireNode_12 : decode cX6_requireNode 12 = .ok (.if_icmp .lt 13, 3) := by decide +kernel
theorem dX6_requireNode_15 : decode cX6_requireNode 15 = .ok (.new 162, 3) := by decide +kernel
theorem dX6_requireNode_18 : decode cX6_requireNode 18 = .ok (.dup, 1) := by decide +kernel
theorem dX6_requireNode_19 : decode cX6_requireNode 19 = .ok (.ldc 205, 2) := by decide +kernel
theorem dX6_requireNode_21 : decode cX6_requireNode 21 = .ok (.invokespecial 166, 3) := by decide +kernel
theorem dX6_requireNode_24 : decode cX6_requireNode 24 = .ok (.athrow, 1) := by decide +kernel
theorem dX6_requireNode_25 : decode cX6_requireNode 25 = .ok (.return_, 1) := by decide +kernel
theorem dX6_requireArc_0 : decode cX6_requireArc 0 = .ok (.iload_n 1, 1) := by decide +kernel
theorem dX6_requireArc_1 : decode cX6_requireArc 1 = .ok (.ifCond .lt 14, 3) := by decide +kernel
theorem dX6_requireArc_4 : decode cX6_requireArc 4 = .ok (.iload_n 1, 1) := by decide +kernel
theorem dX6_requireArc_5 : decode cX6_requireArc 5 = .ok (.aload_n 0, 1) := by decide +kernel
theorem dX6_requireArc_6 : decode cX6_requireArc 6 = .ok (.getfield 10, 3) := by decide +kernel
theorem dX6_requireArc_9 : decode cX6_requireArc 9 = .ok (.getfield 68, 3) := by decide +kernel
theorem dX6_requireArc_12 : decode cX6_requireArc 12 = .ok (.if_icmp .lt 13, 3) := by decide +kernel
theorem dX6_requireArc_15 : decode cX6_requireArc 15 = .ok (.new 162, 3) := by decide +kernel
theorem dX6_requireArc_18 : decode cX6_requireArc 18 = .ok (.dup, 1) := by decide +kernel
theorem dX6_requireArc_19 : decode cX6_requireArc 19 = .ok (.ldc 207, 2) := by decide +kernel
theorem dX6_requireArc_21 : decode cX6_requireArc 21 = .ok (.invokespecial 166, 3) := by decide +kernel
theorem dX6_requireArc_24 : decode cX6_requireArc 24 = .ok (.athrow, 1) := by decide +kernel
theorem dX6_requireArc_25 : decode cX6_requireArc 25 = .ok (.return_, 1) := by decide +kernel
theorem dX6_requireDifferent_0 : decode cX6_requireDifferent 0 = .ok (.iload_n 0, 1) := by decide +kernel
theorem dX6_requireDifferent_1 : decode cX6_requireDifferent 1 = .ok (.iload_n 1, 1) := by decide +kernel
theorem dX6_requireDifferent_2 : decode cX6_requireDifferent 2 = .ok (.if_icmp .ne 13, 3) := by decide +kernel
theorem dX6_requireDifferent_5 : decode cX6_requireDifferent 5 = .ok (.new 145, 3) := by decide +kernel
theorem dX6_requireDifferent_8 : decode cX6_requireDifferent 8 = .ok (.dup, 1) := by decide +kernel
theorem dX6_requireDifferent_9 : decode cX6_requireDifferent 9 = .ok (.ldc 209, 2) := by decide +kernel
theorem dX6_requireDifferent_11 : decode cX6_requireDifferent 11 = .ok (.invokespecial 149, 3) := by decide +kernel
theorem dX6_requireDifferent_14 : decode cX6_requireDifferent 14 = .ok (.athrow, 1) := by decide +kernel
theorem dX6_requireDifferent_15 : decode cX6_requireDifferent 15 = .ok (.return_, 1) := by decide +kernel
theorem dX6_requireCapacity_0 : decode cX6_requireCapacity 0 = .ok (.iload_n 0, 1) := by decide +kernel
theorem dX6_requireCapacity_1 : decode cX6_requireCapacity 1 = .ok (.ifCond .lt 9, 3) := by decide +kernel
theorem dX6_requireCapacity_4 : decode cX6_requireCapacity 4 = .ok (.iload_n 0, 1) := by decide +kernel
theorem dX6_requireCapacity_5 : decode cX6_requireCapacity 5 = .ok (.ldc 211, 2) := by decide +kernel
theorem dX6_requireCapacity_7 : decode cX6_requireCapacity 7 = .ok (.if_icmp .le 13, 3) := by decide +kernel
theorem dX6_requireCapacity_10 : decode cX6_requireCapacity 10 = .ok (.new 145, 3) := by decide +kernel
theorem dX6_requireCapacity_13 : decode cX6_requireCapacity 13 = .ok (.dup, 1) := by decide +kernel
theorem dX6_requireCapacity_14 : decode cX6_requireCapacity 14 = .ok (.ldc 212, 2) := by decide +kernel
theorem dX6_requireCapacity_16 : decode cX6_requireCapacity 16 = .ok (.invokespecial 149, 3) := by decide +kernel
theorem dX6_requireCapacity_19 : decode cX6_requireCapacity 19 = .ok (.athrow, 1) := by decide +kernel
theorem dX6_requireCapacity_20 : decode cX6_requireCapacity 20 = .ok (.return_, 1) := by decide +kernel
theorem dX6_requireFraction_0 : decode cX6_requireFraction 0 = .ok (.dload_n 0, 1) := by decide +kernel
theorem dX6_requireFraction_1 : decode cX6_requireFraction 1 = .ok (.dconst 0, 1) := by decide +kernel
theorem dX6_requireFraction_2 : decode cX6_requireFraction 2 = .ok (.dcmp .l, 1) := by decide +kernel
theorem dX6_requireFraction_3 : decode cX6_requireFraction 3 = .ok (.ifCond .lt 15, 3) := by decide +kernel
theorem dX6_requireFraction_6 : decode cX6_requireFraction 6 = .ok (.dload_n 0, 1) := by decide +kernel
theorem dX6_requireFraction_7 : decode cX6_requireFraction 7 = .ok (.ldc2_w 214, 3) := by decide +kernel
theorem dX6_requireFraction_10 : decode cX6_requireFraction 10 = .ok (.dcmp .g, 1) := by decide +kernel
theorem dX6_requireFraction_11 : decode cX6_requireFraction 11 = .ok (.ifCond .gt 7, 3) := by decide +kernel
theorem dX6_requireFraction_14 : decode cX6_requireFraction 14 = .ok (.iconst 1, 1) := by decide +kernel
theorem dX6_requireFraction_15 : decode cX6_requireFraction 15 = .ok (.goto 4, 3) := by decide +kernel
theorem dX6_requireFraction_18 : decode cX6_requireFraction 18 = .ok (.iconst 0, 1) := by decide +kernel
theorem dX6_requireFraction_19 : decode cX6_requireFraction 19 = .ok (.istore_n 2, 1) := by decide +kernel
theorem dX6_requireFraction_20 : decode cX6_requireFraction 20 = .ok (.iload_n 2, 1) := by decide +kernel
theorem dX6_requireFraction_21 : decode cX6_requireFraction 21 = .ok (.ifCond .ne 13, 3) := by decide +kernel
theorem dX6_requireFraction_24 : decode cX6_requireFraction 24 = .ok (.new 145, 3) := by decide +kernel
theorem dX6_requireFraction_27 : decode cX6_requireFraction 27 = .ok (.dup, 1) := by decide +kernel
theorem dX6_requireFraction_28 : decode cX6_requireFraction 28 = .ok (.ldc 216, 2) := by decide +kernel
theorem dX6_requireFraction_30 : decode cX6_requireFraction 30 = .ok (.invokespecial 149, 3) := by decide +kernel
theorem dX6_requireFraction_33 : decode cX6_requireFraction 33 = .ok (.athrow, 1) := by decide +kernel
theorem dX6_requireFraction_34 : decode cX6_requireFraction 34 = .ok (.return_, 1) := by decide +kernel
theorem dX6_isCut_0 : decode cX6_isCut 0 = .ok (.iload_n 1, 1) := by decide +kernel
theorem dX6_isCut_1 : decode cX6_isCut 1 = .ok (.aload_n 0, 1) := by decide +kernel
theorem dX6_isCut_2 : decode cX6_isCut 2 = .ok (.getfield 10, 3) := by decide +kernel
theorem dX6_isCut_5 : decode cX6_isCut 5 = .ok (.invokevirtual 218, 3) := by decide +kernel
theorem dX6_isCut_8 : decode cX6_isCut 8 = .ok (.iconst (-1), 1) := by decide +kernel
theorem dX6_isCut_9 : decode cX6_isCut 9 = .ok (.ixor, 1) := by decide +kernel
theorem dX6_isCut_10 : decode cX6_isCut 10 = .ok (.iand, 1) := by decide +kernel
theorem dX6_isCut_11 : decode cX6_isCut 11 = .ok (.ifCond .ne 35, 3) := by decide +kernel
theorem dX6_isCut_14 : decode cX6_isCut 14 = .ok (.iload_n 1, 1) := by decide +kernel
theorem dX6_isCut_15 : decode cX6_isCut 15 = .ok (.aload_n 0, 1) := by decide +kernel
theorem dX6_isCut_16 : decode cX6_isCut 16 = .ok (.getfield 21, 3) := by decide +kernel
theorem dX6_isCut_19 : decode cX6_isCut 19 = .ok (.getfield 121, 3) := by decide +kernel
theorem dX6_isCut_22 : decode cX6_isCut 22 = .ok (.invokestatic 173, 3) := by decide +kernel
theorem dX6_isCut_25 : decode cX6_isCut 25 = .ok (.ifCond .eq 21, 3) := by decide +kernel
theorem dX6_isCut_28 : decode cX6_isCut 28 = .ok (.iload_n 1, 1) := by decide +kernel
theorem dX6_isCut_29 : decode cX6_isCut 29 = .ok (.aload_n 0, 1) := by decide +kernel
theorem dX6_isCut_30 : decode cX6_isCut 30 = .ok (.getfield 21, 3) := by decide +kernel
theorem dX6_isCut_33 : decode cX6_isCut 33 = .ok (.getfield 176, 3) := by decide +kernel
theorem dX6_isCut_36 : decode cX6_isCut 36 = .ok (.invokestatic 173, 3) := by decide +kernel
theorem dX6_isCut_39 : decode cX6_isCut 39 = .ok (.ifCond .ne 7, 3) := by decide +kernel
theorem dX6_isCut_42 : decode cX6_isCut 42 = .ok (.iconst 1, 1) := by decide +kernel
theorem dX6_isCut_43 : decode cX6_isCut 43 = .ok (.goto 4, 3) := by decide +kernel
theorem dX6_isCut_46 : decode cX6_isCut 46 = .ok (.iconst 0, 1) := by decide +kernel
theorem dX6_isCut_47 : decode cX6_isCut 47 = .ok (.ireturn, 1) := by decide +kernel
theorem dX6_movable_0 : decode cX6_movable 0 = .ok (.aload_n 0, 1) := by decide +kernel
theorem dX6_movable_1 : decode cX6_movable 1 = .ok (.getfield 25, 3) := by decide +kernel
theorem dX6_movable_4 : decode cX6_movable 4 = .ok (.aload_n 0, 1) := by decide +kernel
theorem dX6_movable_5 : decode cX6_movable 5 = .ok (.getfield 21, 3) := by decide +kernel
theorem dX6_movable_8 : decode cX6_movable 8 = .ok (.invokevirtual 114, 3) := by decide +kernel
theorem dX6_movable_11 : decode cX6_movable 11 = .ok (.aload_n 0, 1) := by decide +kernel
theorem dX6_movable_12 : decode cX6_movable 12 = .ok (.getfield 25, 3) := by decide +kernel
theorem dX6_movable_15 : decode cX6_movable 15 = .ok (.getfield 83, 3) := by decide +kernel
theorem dX6_movable_18 : decode cX6_movable 18 = .ok (.iload_n 1, 1) := by decide +kernel
theorem dX6_movable_19 : decode cX6_movable 19 = .ok (.invokevirtual 221, 3) := by decide +kernel
theorem dX6_movable_22 : decode cX6_movable 22 = .ok (.aload_n 0, 1) := by decide +kernel
theorem dX6_movable_23 : decode cX6_movable 23 = .ok (.getfield 25, 3) := by decide +kernel
theorem dX6_movable_26 : decode cX6_movable 26 = .ok (.getfield 224, 3) := by decide +kernel
theorem dX6_movable_29 : decode cX6_movable 29 = .ok (.iload_n 2, 1) := by decide +kernel
theorem dX6_movable_30 : decode cX6_movable 30 = .ok (.aload_n 0, 1) := by decide +kernel
theorem dX6_movable_31 : decode cX6_movable 31 = .ok (.getfield 10, 3) := by decide +kernel
theorem dX6_movable_34 : decode cX6_movable 34 = .ok (.iload_n 1, 1) := by decide +kernel
theorem dX6_movable_35 : decode cX6_movable 35 = .ok (.iload_n 2, 1) := by decide +kernel
theorem dX6_movable_36 : decode cX6_movable 36 = .ok (.invokevirtual 228, 3) := by decide +kernel
theorem dX6_movable_39 : decode cX6_movable 39 = .ok (.iload_n 3, 1) := by decide +kernel
theorem dX6_movable_40 : decode cX6_movable 40 = .ok (.invokevirtual 231, 3) := by decide +kernel
theorem dX6_movable_43 : decode cX6_movable 43 = .ok (.ireturn, 1) := by decide +kernel
theorem dX6_scaled_0 : decode cX6_scaled 0 = .ok (.iload_n 0, 1) := by decide +kernel
theorem dX6_scaled_1 : decode cX6_scaled 1 = .ok (.i2d, 1) := by decide +kernel
theorem dX6_scaled_2 : decode cX6_scaled 2 = .ok (.dload_n 1, 1) := by decide +kernel
theorem dX6_scaled_3 : decode cX6_scaled 3 = .ok (.dmul, 1) := by decide +kernel
theorem dX6_scaled_4 : decode cX6_scaled 4 = .ok (.dstore_n 3, 1) := by decide +kernel
theorem dX6_scaled_5 : decode cX6_scaled 5 = .ok (.dload_n 3, 1) := by decide +kernel
theorem dX6_scaled_6 : decode cX6_scaled 6 = .ok (.d2i, 1) := by decide +kernel
theorem dX6_scaled_7 : decode cX6_scaled 7 = .ok (.istore 5, 2) := by decide +kernel
theorem dX6_scaled_9 : decode cX6_scaled 9 = .ok (.dload_n 3, 1) := by decide +kernel
theorem dX6_scaled_10 : decode cX6_scaled 10 = .ok (.iload 5, 2) := by decide +kernel
theorem dX6_scaled_12 : decode cX6_scaled 12 = .ok (.i2d, 1) := by decide +kernel
theorem dX6_scaled_13 : decode cX6_scaled 13 = .ok (.dsub, 1) := by decide +kernel
theorem dX6_scaled_14 : decode cX6_scaled 14 = .ok (.dstore 6, 2) := by decide +kernel
theorem dX6_scaled_16 : decode cX6_scaled 16 = .ok (.dload 6, 2) := by decide +kernel
theorem dX6_scaled_18 : decode cX6_scaled 18 = .ok (.ldc2_w 236, 3) := by decide +kernel
theorem dX6_scaled_21 : decode cX6_scaled 21 = .ok (.dcmp .l, 1) := by decide +kernel
theorem dX6_scaled_22 : decode cX6_scaled 22 = .ok (.ifCond .gt 20, 3) := by decide +kernel
theorem dX6_scaled_25 : decode cX6_scaled 25 = .ok (.dload 6, 2) := by decide +kernel
theorem dX6_scaled_27 : decode cX6_scaled 27 = .ok (.ldc2_w 236, 3) := by decide +kernel
theorem dX6_scaled_30 : decode cX6_scaled 30 = .ok (.dcmp .l, 1) := by decide +kernel
theorem dX6_scaled_31 : decode cX6_scaled 31 = .ok (.ifCond .ne 15, 3) := by decide +kernel
theorem dX6_scaled_34 : decode cX6_scaled 34 = .ok (.iload 5, 2) := by decide +kernel
theorem dX6_scaled_36 : decode cX6_scaled 36 = .ok (.iconst 1, 1) := by decide +kernel
theorem dX6_scaled_37 : decode cX6_scaled 37 = .ok (.iand, 1) := by decide +kernel
theorem dX6_scaled_38 : decode cX6_scaled 38 = .ok (.iconst 1, 1) := by decide +kernel
theorem dX6_scaled_39 : decode cX6_scaled 39 = .ok (.if_icmp .ne 7, 3) := by decide +kernel
theorem dX6_scaled_42 : decode cX6_scaled 42 = .ok (.iconst 1, 1) := by decide +kernel
theorem dX6_scaled_43 : decode cX6_scaled 43 = .ok (.goto 4, 3) := by decide +kernel
theorem dX6_scaled_46 : decode cX6_scaled 46 = .ok (.iconst 0, 1) := by decide +kernel
theorem dX6_scaled_47 : decode cX6_scaled 47 = .ok (.istore 8, 2) := by decide +kernel
theorem dX6_scaled_49 : decode cX6_scaled 49 = .ok (.iload 8, 2) := by decide +kernel
theorem dX6_scaled_51 : decode cX6_scaled 51 = .ok (.ifCond .eq 10, 3) := by decide +kernel
theorem dX6_scaled_54 : decode cX6_scaled 54 = .ok (.iload 5, 2) := by decide +kernel
theorem dX6_scaled_56 : decode cX6_scaled 56 = .ok (.iconst 1, 1) := by decide +kernel
theorem dX6_scaled_57 : decode cX6_scaled 57 = .ok (.iadd, 1) := by decide +kernel
theorem dX6_scaled_58 : decode cX6_scaled 58 = .ok (.goto 5, 3) := by decide +kernel
theorem dX6_scaled_61 : decode cX6_scaled 61 = .ok (.iload 5, 2) := by decide +kernel
theorem dX6_scaled_63 : decode cX6_scaled 63 = .ok (.ldc 211, 2) := by decide +kernel
theorem dX6_scaled_65 : decode cX6_scaled 65 = .ok (.invokestatic 238, 3) := by decide +kernel
theorem dX6_scaled_68 : decode cX6_scaled 68 = .ok (.ireturn, 1) := by decide +kernel
theorem dX6_contains_0 : decode cX6_contains 0 = .ok (.iload_n 0, 1) := by decide +kernel
theorem dX6_contains_1 : decode cX6_contains 1 = .ok (.iload_n 1, 1) := by decide +kernel
theorem dX6_contains_2 : decode cX6_contains 2 = .ok (.ishr, 1) := by decide +kernel
theorem dX6_contains_3 : decode cX6_contains 3 = .ok (.iconst 1, 1) := by decide +kernel
theorem dX6_contains_4 : decode cX6_contains 4 = .ok (.iand, 1) := by decide +kernel
theorem dX6_contains_5 : decode cX6_contains 5 = .ok (.iconst 1, 1) := by decide +kernel
theorem dX6_contains_6 : decode cX6_contains 6 = .ok (.if_icmp .ne 7, 3) := by decide +kernel
theorem dX6_contains_9 : decode cX6_contains 9 = .ok (.iconst 1, 1) := by decide +kernel
theorem dX6_contains_10 : decode cX6_contains 10 = .ok (.goto 4, 3) := by decide +kernel
theorem dX6_contains_13 : decode cX6_contains 13 = .ok (.iconst 0, 1) := by decide +kernel
theorem dX6_contains_14 : decode cX6_contains 14 = .ok (.ireturn, 1) := by decide +kernel
theorem dJ9_min_7cf53_0 : decode cJ9_min_7cf53 0 = .ok (.iload_n 0, 1) := by decide +kernel
theorem dJ9_min_7cf53_1 : decode cJ9_min_7cf53 1 = .ok (.iload_n 1, 1) := by decide +kernel
theorem dJ9_min_7cf53_2 : decode cJ9_min_7cf53 2 = .ok (.if_icmp .gt 7, 3) := by decide +kernel
theorem dJ9_min_7cf53_5 : decode cJ9_min_7cf53 5 = .ok (.iload_n 0, 1) := by decide +kernel
theorem dJ9_min_7cf53_6 : decode cJ9_min_7cf53 6 = .ok (.goto 4, 3) := by decide +kernel
theorem dJ9_min_7cf53_9 : decode cJ9_min_7cf53 9 = .ok (.iload_n 1, 1) := by decide +kernel
theorem dJ9_min_7cf53_10 : decode cJ9_min_7cf53 10 = .ok (.ireturn, 1) := by decide +kernel
theorem dJ7_fill_53178_0 : decode cJ7_fill_53178 0 = .ok (.iconst 0, 1) := by decide +kernel
theorem dJ7_fill_53178_1 : decode cJ7_fill_53178 1 = .ok (.istore_n 2, 1) := by decide +kernel
theorem dJ7_fill_53178_2 : decode cJ7_fill_53178 2 = .ok (.aload_n 0, 1) := by decide +kernel
theorem dJ7_fill_53178_3 : decode cJ7_fill_53178 3 = .ok (.arraylength, 1) := by decide +kernel
theorem dJ7_fill_53178_4 : decode cJ7_fill_53178 4 = .ok (.istore_n 3, 1) := by decide +kernel
theorem dJ7_fill_53178_5 : decode cJ7_fill_53178 5 = .ok (.iload_n 2, 1) := by decide +kernel
theorem dJ7_fill_53178_6 : decode cJ7_fill_53178 6 = .ok (.iload_n 3, 1) := by decide +kernel
theorem dJ7_fill_53178_7 : decode cJ7_fill_53178 7 = .ok (.if_icmp .ge 13, 3) := by decide +kernel
theorem dJ7_fill_53178_10 : decode cJ7_fill_53178 10 = .ok (.aload_n 0, 1) := by decide +kernel
theorem dJ7_fill_53178_11 : decode cJ7_fill_53178 11 = .ok (.iload_n 2, 1) := by decide +kernel
theorem dJ7_fill_53178_12 : decode cJ7_fill_53178 12 = .ok (.iload_n 1, 1) := by decide +kernel
theorem dJ7_fill_53178_13 : decode cJ7_fill_53178 13 = .ok (.iastore, 1) := by decide +kernel
theorem dJ7_fill_53178_14 : decode cJ7_fill_53178 14 = .ok (.iinc 2 1, 3) := by decide +kernel
theorem dJ7_fill_53178_17 : decode cJ7_fill_53178 17 = .ok (.goto (-12), 3) := by decide +kernel
theorem dJ7_fill_53178_20 : decode cJ7_fill_53178 20 = .ok (.return_, 1) := by decide +kernel
theorem dL_below_0 : decode cL_below 0 = .ok (.iload_n 0, 1) := by decide +kernel
theorem dL_below_1 : decode cL_below 1 = .ok (.ldc 7, 2) := by decide +kernel
theorem dL_below_3 : decode cL_below 3 = .ok (.iand, 1) := by decide +kernel
theorem dL_below_4 : decode cL_below 4 = .ok (.iload_n 1, 1) := by decide +kernel
theorem dL_below_5 : decode cL_below 5 = .ok (.irem, 1) := by decide +kernel
theorem dL_below_6 : decode cL_below 6 = .ok (.ireturn, 1) := by decide +kernel
theorem dL_cell_0 : decode cL_cell 0 = .ok (.iload_n 1, 1) := by decide +kernel
theorem dL_cell_1 : decode cL_cell 1 = .ok (.aload_n 0, 1) := by decide +kernel
theorem dL_cell_2 : decode cL_cell 2 = .ok (.arraylength, 1) := by decide +kernel
theorem dL_cell_3 : decode cL_cell 3 = .ok (.if_icmp .ge 9, 3) := by decide +kernel
theorem dL_cell_6 : decode cL_cell 6 = .ok (.aload_n 0, 1) := by decide +kernel
theorem dL_cell_7 : decode cL_cell 7 = .ok (.iload_n 1, 1) := by decide +kernel
theorem dL_cell_8 : decode cL_cell 8 = .ok (.iaload, 1) := by decide +kernel
theorem dL_cell_9 : decode cL_cell 9 = .ok (.goto 9, 3) := by decide +kernel
theorem dL_cell_12 : decode cL_cell 12 = .ok (.ldc 8, 2) := by decide +kernel
theorem dL_cell_14 : decode cL_cell 14 = .ok (.iload_n 1, 1) := by decide +kernel
theorem dL_cell_15 : decode cL_cell 15 = .ok (.iconst 3, 1) := by decide +kernel
theorem dL_cell_16 : decode cL_cell 16 = .ok (.iadd, 1) := by decide +kernel
theorem dL_cell_17 : decode cL_cell 17 = .ok (.imul, 1) := by decide +kernel
theorem dL_cell_18 : decode cL_cell 18 = .ok (.ireturn, 1) := by decide +kernel
theorem dL_build_0 : decode cL_build 0 = .ok (.iconst 0, 1) := by decide +kernel
theorem dL_build_1 : decode cL_build 1 = .ok (.istore 8, 2) := by decide +kernel
theorem dL_build_3 : decode cL_build 3 = .ok (.iload 8, 2) := by decide +kernel
theorem dL_build_5 : decode cL_build 5 = .ok (.iload_n 3, 1) := by decide +kernel
theorem dL_build_6 : decode cL_build 6 = .ok (.if_icmp .ge 20, 3) := by decide +kernel
theorem dL_build_9 : decode cL_build 9 = .ok (.aload_n 0, 1) := by decide +kernel
theorem dL_build_10 : decode cL_build 10 = .ok (.invokevirtual 9, 3) := by decide +kernel
theorem dL_build_13 : decode cL_build 13 = .ok (.iload 8, 2) := by decide +kernel
theorem dL_build_15 : decode cL_build 15 = .ok (.if_icmp .eq 5, 3) := by decide +kernel
theorem dL_build_18 : decode cL_build 18 = .ok (.iconst 0, 1) := by decide +kernel
theorem dL_build_19 : decode cL_build 19 = .ok (.ireturn, 1) := by decide +kernel
theorem dL_build_20 : decode cL_build 20 = .ok (.iinc 8 1, 3) := by decide +kernel
theorem dL_build_23 : decode cL_build 23 = .ok (.goto (-20), 3) := by decide +kernel
theorem dL_build_26 : decode cL_build 26 = .ok (.iconst 0, 1) := by decide +kernel
theorem dL_build_27 : decode cL_build 27 = .ok (.istore 8, 2) := by decide +kernel
theorem dL_build_29 : decode cL_build 29 = .ok (.iload 8, 2) := by decide +kernel
theorem dL_build_31 : decode cL_build 31 = .ok (.aload 4, 2) := by decide +kernel
theorem dL_build_33 : decode cL_build 33 = .ok (.arraylength, 1) := by decide +kernel
theorem dL_build_34 : decode cL_build 34 = .ok (.if_icmp .ge 98, 3) := by decide +kernel
theorem dL_build_37 : decode cL_build 37 = .ok (.aload_n 1, 1) := by decide +kernel
theorem dL_build_38 : decode cL_build 38 = .ok (.iload_n 2, 1) := by decide +kernel
theorem dL_build_39 : decode cL_build 39 = .ok (.iload 8, 2) := by decide +kernel
theorem dL_build_41 : decode cL_build 41 = .ok (.iadd, 1) := by decide +kernel
theorem dL_build_42 : decode cL_build 42 = .ok (.invokestatic 15, 3) := by decide +kernel
theorem dL_build_45 : decode cL_build 45 = .ok (.istore 9, 2) := by decide +kernel
theorem dL_build_47 : decode cL_build 47 = .ok (.aload 4, 2) := by decide +kernel
theorem dL_build_49 : decode cL_build 49 = .ok (.iload 8, 2) := by decide +kernel
theorem dL_build_51 : decode cL_build 51 = .ok (.iload 9, 2) := by decide +kernel
theorem dL_build_53 : decode cL_build 53 = .ok (.iload_n 3, 1) := by decide +kernel
theorem dL_build_54 : decode cL_build 54 = .ok (.invokestatic 21, 3) := by decide +kernel
theorem dL_build_57 : decode cL_build 57 = .ok (.iastore, 1) := by decide +kernel
theorem dL_build_58 : decode cL_build 58 = .ok (.aload 5, 2) := by decide +kernel
theorem dL_build_60 : decode cL_build 60 = .ok (.iload 8, 2) := by decide +kernel
theorem dL_build_62 : decode cL_build 62 = .ok (.aload 4, 2) := by decide +kernel
theorem dL_build_64 : decode cL_build 64 = .ok (.iload 8, 2) := by decide +kernel
theorem dL_build_66 : decode cL_build 66 = .ok (.iaload, 1) := by decide +kernel
theorem dL_build_67 : decode cL_build 67 = .ok (.iconst 1, 1) := by decide +kernel
theorem dL_build_68 : decode cL_build 68 = .ok (.iadd, 1) := by decide +kernel
theorem dL_build_69 : decode cL_build 69 = .ok (.iload 9, 2) := by decide +kernel
theorem dL_build_71 : decode cL_build 71 = .ok (.iconst 4, 1) := by decide +kernel
theorem dL_build_72 : decode cL_build 72 = .ok (.ishr, 1) := by decide +kernel
theorem dL_build_73 : decode cL_build 73 = .ok (.iload_n 3, 1) := by decide +kernel
theorem dL_build_74 : decode cL_build 74 = .ok (.iconst 1, 1) := by decide +kernel
theorem dL_build_75 : decode cL_build 75 = .ok (.isub, 1) := by decide +kernel
theorem dL_build_76 : decode cL_build 76 = .ok (.invokestatic 21, 3) := by decide +kernel
theorem dL_build_79 : decode cL_build 79 = .ok (.iadd, 1) := by decide +kernel
theorem dL_build_80 : decode cL_build 80 = .ok (.iload_n 3, 1) := by decide +kernel
theorem dL_build_81 : decode cL_build 81 = .ok (.irem, 1) := by decide +kernel
theorem dL_build_82 : decode cL_build 82 = .ok (.iastore, 1) := by decide +kernel
theorem dL_build_83 : decode cL_build 83 = .ok (.aload 6, 2) := by decide +kernel
theorem dL_build_85 : decode cL_build 85 = .ok (.iload 8, 2) := by decide +kernel
theorem dL_build_87 : decode cL_build 87 = .ok (.iload 9, 2) := by decide +kernel
theorem dL_build_89 : decode cL_build 89 = .ok (.bipush 8, 2) := by decide +kernel
theorem dL_build_91 : decode cL_build 91 = .ok (.ishr, 1) := by decide +kernel
theorem dL_build_92 : decode cL_build 92 = .ok (.iload 7, 2) := by decide +kernel
theorem dL_build_94 : decode cL_build 94 = .ok (.iconst 1, 1) := by decide +kernel
theorem dL_build_95 : decode cL_build 95 = .ok (.iadd, 1) := by decide +kernel
theorem dL_build_96 : decode cL_build 96 = .ok (.invokestatic 21, 3) := by decide +kernel
theorem dL_build_99 : decode cL_build 99 = .ok (.iastore, 1) := by decide +kernel
theorem dL_build_100 : decode cL_build 100 = .ok (.aload_n 0, 1) := by decide +kernel
theorem dL_build_101 : decode cL_build 101 = .ok (.aload 4, 2) := by decide +kernel
theorem dL_build_103 : decode cL_build 103 = .ok (.iload 8, 2) := by decide +kernel
theorem dL_build_105 : decode cL_build 105 = .ok (.iaload, 1) := by decide +kernel
theorem dL_build_106 : decode cL_build 106 = .ok (.aload 5, 2) := by decide +kernel
theorem dL_build_108 : decode cL_build 108 = .ok (.iload 8, 2) := by decide +kernel
theorem dL_build_110 : decode cL_build 110 = .ok (.iaload, 1) := by decide +kernel
theorem dL_build_111 : decode cL_build 111 = .ok (.aload 6, 2) := by decide +kernel
theorem dL_build_113 : decode cL_build 113 = .ok (.iload 8, 2) := by decide +kernel
theorem dL_build_115 : decode cL_build 115 = .ok (.iaload, 1) := by decide +kernel
theorem dL_build_116 : decode cL_build 116 = .ok (.invokevirtual 25, 3) := by decide +kernel
theorem dL_build_119 : decode cL_build 119 = .ok (.iload 8, 2) := by decide +kernel
theorem dL_build_121 : decode cL_build 121 = .ok (.if_icmp .eq 5, 3) := by decide +kernel
theorem dL_build_124 : decode cL_build 124 = .ok (.iconst 0, 1) := by decide +kernel
theorem dL_build_125 : decode cL_build 125 = .ok (.ireturn, 1) := by decide +kernel
theorem dL_build_126 : decode cL_build 126 = .ok (.iinc 8 1, 3) := by decide +kernel
theorem dL_build_129 : decode cL_build 129 = .ok (.goto (-100), 3) := by decide +kernel
theorem dL_build_132 : decode cL_build 132 = .ok (.aload_n 0, 1) := by decide +kernel
theorem dL_build_133 : decode cL_build 133 = .ok (.iconst 0, 1) := by decide +kernel
theorem dL_build_134 : decode cL_build 134 = .ok (.iload_n 3, 1) := by decide +kernel
theorem dL_build_135 : decode cL_build 135 = .ok (.iconst 1, 1) := by decide +kernel
theorem dL_build_136 : decode cL_build 136 = .ok (.isub, 1) := by decide +kernel
theorem dL_build_137 : decode cL_build 137 = .ok (.invokevirtual 29, 3) := by decide +kernel
theorem dL_build_140 : decode cL_build 140 = .ok (.ifCond .eq 18, 3) := by decide +kernel
theorem dL_build_143 : decode cL_build 143 = .ok (.aload_n 0, 1) := by decide +kernel
theorem dL_build_144 : decode cL_build 144 = .ok (.iconst 0, 1) := by decide +kernel
theorem dL_build_145 : decode cL_build 145 = .ok (.iload_n 3, 1) := by decide +kernel
theorem dL_build_146 : decode cL_build 146 = .ok (.iconst 1, 1) := by decide +kernel
theorem dL_build_147 : decode cL_build 147 = .ok (.isub, 1) := by decide +kernel
theorem dL_build_148 : decode cL_build 148 = .ok (.invokevirtual 29, 3) := by decide +kernel
theorem dL_build_151 : decode cL_build 151 = .ok (.ifCond .ne 7, 3) := by decide +kernel
theorem dL_build_154 : decode cL_build 154 = .ok (.iconst 1, 1) := by decide +kernel
theorem dL_build_155 : decode cL_build 155 = .ok (.goto 4, 3) := by decide +kernel
theorem dL_build_158 : decode cL_build 158 = .ok (.iconst 0, 1) := by decide +kernel
theorem dL_build_159 : decode cL_build 159 = .ok (.ireturn, 1) := by decide +kernel
theorem dL_cutCapacity_0 : decode cL_cutCapacity 0 = .ok (.iconst 0, 1) := by decide +kernel
theorem dL_cutCapacity_1 : decode cL_cutCapacity 1 = .ok (.istore 4, 2) := by decide +kernel
theorem dL_cutCapacity_3 : decode cL_cutCapacity 3 = .ok (.iconst 0, 1) := by decide +kernel
theorem dL_cutCapacity_4 : decode cL_cutCapacity 4 = .ok (.istore 5, 2) := by decide +kernel
theorem dL_cutCapacity_6 : decode cL_cutCapacity 6 = .ok (.iload 5, 2) := by decide +kernel
theorem dL_cutCapacity_8 : decode cL_cutCapacity 8 = .ok (.aload_n 1, 1) := by decide +kernel
theorem dL_cutCapacity_9 : decode cL_cutCapacity 9 = .ok (.arraylength, 1) := by decide +kernel
theorem dL_cutCapacity_10 : decode cL_cutCapacity 10 = .ok (.if_icmp .ge 45, 3) := by decide +kernel
theorem dL_cutCapacity_13 : decode cL_cutCapacity 13 = .ok (.iload 4, 2) := by decide +kernel
theorem dL_cutCapacity_15 : decode cL_cutCapacity 15 = .ok (.iload_n 0, 1) := by decide +kernel
theorem dL_cutCapacity_16 : decode cL_cutCapacity 16 = .ok (.aload_n 1, 1) := by decide +kernel
theorem dL_cutCapacity_17 : decode cL_cutCapacity 17 = .ok (.iload 5, 2) := by decide +kernel
theorem dL_cutCapacity_19 : decode cL_cutCapacity 19 = .ok (.iaload, 1) := by decide +kernel
theorem dL_cutCapacity_20 : decode cL_cutCapacity 20 = .ok (.ishr, 1) := by decide +kernel
theorem dL_cutCapacity_21 : decode cL_cutCapacity 21 = .ok (.iconst 1, 1) := by decide +kernel
theorem dL_cutCapacity_22 : decode cL_cutCapacity 22 = .ok (.iand, 1) := by decide +kernel
theorem dL_cutCapacity_23 : decode cL_cutCapacity 23 = .ok (.iconst 1, 1) := by decide +kernel
theorem dL_cutCapacity_24 : decode cL_cutCapacity 24 = .ok (.if_icmp .ne 21, 3) := by decide +kernel
theorem dL_cutCapacity_27 : decode cL_cutCapacity 27 = .ok (.iload_n 0, 1) := by decide +kernel
theorem dL_cutCapacity_28 : decode cL_cutCapacity 28 = .ok (.aload_n 2, 1) := by decide +kernel
theorem dL_cutCapacity_29 : decode cL_cutCapacity 29 = .ok (.iload 5, 2) := by decide +kernel
theorem dL_cutCapacity_31 : decode cL_cutCapacity 31 = .ok (.iaload, 1) := by decide +kernel
theorem dL_cutCapacity_32 : decode cL_cutCapacity 32 = .ok (.ishr, 1) := by decide +kernel
theorem dL_cutCapacity_33 : decode cL_cutCapacity 33 = .ok (.iconst 1, 1) := by decide +kernel
theorem dL_cutCapacity_34 : decode cL_cutCapacity 34 = .ok (.iand, 1) := by decide +kernel
theorem dL_cutCapacity_35 : decode cL_cutCapacity 35 = .ok (.ifCond .ne 10, 3) := by decide +kernel
theorem dL_cutCapacity_38 : decode cL_cutCapacity 38 = .ok (.aload_n 3, 1) := by decide +kernel
theorem dL_cutCapacity_39 : decode cL_cutCapacity 39 = .ok (.iload 5, 2) := by decide +kernel
theorem dL_cutCapacity_41 : decode cL_cutCapacity 41 = .ok (.iaload, 1) := by decide +kernel
theorem dL_cutCapacity_42 : decode cL_cutCapacity 42 = .ok (.goto 4, 3) := by decide +kernel
theorem dL_cutCapacity_45 : decode cL_cutCapacity 45 = .ok (.iconst 0, 1) := by decide +kernel
theorem dL_cutCapacity_46 : decode cL_cutCapacity 46 = .ok (.iadd, 1) := by decide +kernel
theorem dL_cutCapacity_47 : decode cL_cutCapacity 47 = .ok (.istore 4, 2) := by decide +kernel
theorem dL_cutCapacity_49 : decode cL_cutCapacity 49 = .ok (.iinc 5 1, 3) := by decide +kernel
theorem dL_cutCapacity_52 : decode cL_cutCapacity 52 = .ok (.goto (-46), 3) := by decide +kernel
theorem dL_cutCapacity_55 : decode cL_cutCapacity 55 = .ok (.iload 4, 2) := by decide +kernel
theorem dL_cutCapacity_57 : decode cL_cutCapacity 57 = .ok (.ireturn, 1) := by decide +kernel
theorem dL_law_0 : decode cL_law 0 = .ok (.new 10, 3) := by decide +kernel
theorem dL_law_3 : decode cL_law 3 = .ok (.dup, 1) := by decide +kernel
theorem dL_law_4 : decode cL_law 4 = .ok (.invokespecial 44, 3) := by decide +kernel
theorem dL_law_7 : decode cL_law 7 = .ok (.astore_n 1, 1) := by decide +kernel
theorem dL_law_8 : decode cL_law 8 = .ok (.iconst 5, 1) := by decide +kernel
theorem dL_law_9 : decode cL_law 9 = .ok (.istore_n 2, 1) := by decide +kernel
theorem dL_law_10 : decode cL_law 10 = .ok (.bipush 7, 2) := by decide +kernel
theorem dL_law_12 : decode cL_law 12 = .ok (.newarray .int, 2) := by decide +kernel
theorem dL_law_14 : decode cL_law 14 = .ok (.astore_n 3, 1) := by decide +kernel
theorem dL_law_15 : decode cL_law 15 = .ok (.bipush 7, 2) := by decide +kernel
theorem dL_law_17 : decode cL_law 17 = .ok (.newarray .int, 2) := by decide +kernel
theorem dL_law_19 : decode cL_law 19 = .ok (.astore 4, 2) := by decide +kernel
theorem dL_law_21 : decode cL_law 21 = .ok (.bipush 7, 2) := by decide +kernel
theorem dL_law_23 : decode cL_law 23 = .ok (.newarray .int, 2) := by decide +kernel
theorem dL_law_25 : decode cL_law 25 = .ok (.astore 5, 2) := by decide +kernel
theorem dL_law_27 : decode cL_law 27 = .ok (.aload_n 1, 1) := by decide +kernel
theorem dL_law_28 : decode cL_law 28 = .ok (.aload_n 0, 1) := by decide +kernel
theorem dL_law_29 : decode cL_law 29 = .ok (.iconst 0, 1) := by decide +kernel
theorem dL_law_30 : decode cL_law 30 = .ok (.iload_n 2, 1) := by decide +kernel
theorem dL_law_31 : decode cL_law 31 = .ok (.aload_n 3, 1) := by decide +kernel
theorem dL_law_32 : decode cL_law 32 = .ok (.aload 4, 2) := by decide +kernel
theorem dL_law_34 : decode cL_law 34 = .ok (.aload 5, 2) := by decide +kernel
theorem dL_law_36 : decode cL_law 36 = .ok (.bipush 7, 2) := by decide +kernel
theorem dL_law_38 : decode cL_law 38 = .ok (.invokestatic 45, 3) := by decide +kernel
theorem dL_law_41 : decode cL_law 41 = .ok (.ifCond .ne 5, 3) := by decide +kernel
theorem dL_law_44 : decode cL_law 44 = .ok (.iconst 0, 1) := by decide +kernel
theorem dL_law_45 : decode cL_law 45 = .ok (.ireturn, 1) := by decide +kernel
theorem dL_law_46 : decode cL_law 46 = .ok (.iconst 0, 1) := by decide +kernel
theorem dL_law_47 : decode cL_law 47 = .ok (.istore 6, 2) := by decide +kernel
theorem dL_law_49 : decode cL_law 49 = .ok (.iload_n 2, 1) := by decide +kernel
theorem dL_law_50 : decode cL_law 50 = .ok (.iconst 1, 1) := by decide +kernel
theorem dL_law_51 : decode cL_law 51 = .ok (.isub, 1) := by decide +kernel
theorem dL_law_52 : decode cL_law 52 = .ok (.istore 7, 2) := by decide +kernel
theorem dL_law_54 : decode cL_law 54 = .ok (.iconst 0, 1) := by decide +kernel
theorem dL_law_55 : decode cL_law 55 = .ok (.istore 8, 2) := by decide +kernel
theorem dL_law_57 : decode cL_law 57 = .ok (.iload 8, 2) := by decide +kernel
theorem dL_law_59 : decode cL_law 59 = .ok (.bipush 10, 2) := by decide +kernel
theorem dL_law_61 : decode cL_law 61 = .ok (.if_icmp .ge 460, 3) := by decide +kernel
theorem dL_law_64 : decode cL_law 64 = .ok (.aload_n 0, 1) := by decide +kernel
theorem dL_law_65 : decode cL_law 65 = .ok (.bipush 7, 2) := by decide +kernel
theorem dL_law_67 : decode cL_law 67 = .ok (.iload 8, 2) := by decide +kernel
theorem dL_law_69 : decode cL_law 69 = .ok (.iadd, 1) := by decide +kernel
theorem dL_law_70 : decode cL_law 70 = .ok (.invokestatic 15, 3) := by decide +kernel
theorem dL_law_73 : decode cL_law 73 = .ok (.istore 9, 2) := by decide +kernel
theorem dL_law_75 : decode cL_law 75 = .ok (.iload 9, 2) := by decide +kernel
theorem dL_law_77 : decode cL_law 77 = .ok (.iconst 4, 1) := by decide +kernel
theorem dL_law_78 : decode cL_law 78 = .ok (.ishr, 1) := by decide +kernel
theorem dL_law_79 : decode cL_law 79 = .ok (.bipush 7, 2) := by decide +kernel
theorem dL_law_81 : decode cL_law 81 = .ok (.invokestatic 21, 3) := by decide +kernel
theorem dL_law_84 : decode cL_law 84 = .ok (.istore 10, 2) := by decide +kernel
theorem dL_law_86 : decode cL_law 86 = .ok (.iload 9, 2) := by decide +kernel
theorem dL_law_88 : decode cL_law 88 = .ok (.iconst 3, 1) := by decide +kernel
theorem dL_law_89 : decode cL_law 89 = .ok (.iand, 1) := by decide +kernel
theorem dL_law_90 : decode cL_law 90 = .ok (.iconst 2, 1) := by decide +kernel
theorem dL_law_91 : decode cL_law 91 = .ok (.if_icmp .ge 43, 3) := by decide +kernel
theorem dL_law_94 : decode cL_law 94 = .ok (.iload 9, 2) := by decide +kernel
theorem dL_law_96 : decode cL_law 96 = .ok (.bipush 8, 2) := by decide +kernel
theorem dL_law_98 : decode cL_law 98 = .ok (.ishr, 1) := by decide +kernel
theorem dL_law_99 : decode cL_law 99 = .ok (.bipush 8, 2) := by decide +kernel
theorem dL_law_101 : decode cL_law 101 = .ok (.invokestatic 21, 3) := by decide +kernel
theorem dL_law_104 : decode cL_law 104 = .ok (.istore 11, 2) := by decide +kernel
theorem dL_law_106 : decode cL_law 106 = .ok (.aload_n 1, 1) := by decide +kernel
theorem dL_law_107 : decode cL_law 107 = .ok (.iload 10, 2) := by decide +kernel
theorem dL_law_109 : decode cL_law 109 = .ok (.iload 11, 2) := by decide +kernel
theorem dL_law_111 : decode cL_law 111 = .ok (.invokevirtual 49, 3) := by decide +kernel
theorem dL_law_114 : decode cL_law 114 = .ok (.aload 5, 2) := by decide +kernel
theorem dL_law_116 : decode cL_law 116 = .ok (.iload 10, 2) := by decide +kernel
theorem dL_law_118 : decode cL_law 118 = .ok (.iaload, 1) := by decide +kernel
theorem dL_law_119 : decode cL_law 119 = .ok (.if_icmp .eq 5, 3) := by decide +kernel
theorem dL_law_122 : decode cL_law 122 = .ok (.iconst 0, 1) := by decide +kernel
theorem dL_law_123 : decode cL_law 123 = .ok (.ireturn, 1) := by decide +kernel
theorem dL_law_124 : decode cL_law 124 = .ok (.aload 5, 2) := by decide +kernel
theorem dL_law_126 : decode cL_law 126 = .ok (.iload 10, 2) := by decide +kernel
theorem dL_law_128 : decode cL_law 128 = .ok (.iload 11, 2) := by decide +kernel
theorem dL_law_130 : decode cL_law 130 = .ok (.iastore, 1) := by decide +kernel
theorem dL_law_131 : decode cL_law 131 = .ok (.goto 152, 3) := by decide +kernel
theorem dL_law_134 : decode cL_law 134 = .ok (.iload 9, 2) := by decide +kernel
theorem dL_law_136 : decode cL_law 136 = .ok (.iconst 3, 1) := by decide +kernel
theorem dL_law_137 : decode cL_law 137 = .ok (.iand, 1) := by decide +kernel
theorem dL_law_138 : decode cL_law 138 = .ok (.iconst 2, 1) := by decide +kernel
theorem dL_law_139 : decode cL_law 139 = .ok (.if_icmp .ne 77, 3) := by decide +kernel
theorem dL_law_142 : decode cL_law 142 = .ok (.iload 9, 2) := by decide +kernel
theorem dL_law_144 : decode cL_law 144 = .ok (.bipush 8, 2) := by decide +kernel
theorem dL_law_146 : decode cL_law 146 = .ok (.ishr, 1) := by decide +kernel
theorem dL_law_147 : decode cL_law 147 = .ok (.iload_n 2, 1) := by decide +kernel
theorem dL_law_148 : decode cL_law 148 = .ok (.invokestatic 21, 3) := by decide +kernel
theorem dL_law_151 : decode cL_law 151 = .ok (.istore 11, 2) := by decide +kernel
theorem dL_law_153 : decode cL_law 153 = .ok (.iload 11, 2) := by decide +kernel
theorem dL_law_155 : decode cL_law 155 = .ok (.iconst 1, 1) := by decide +kernel
theorem dL_law_156 : decode cL_law 156 = .ok (.iadd, 1) := by decide +kernel
theorem dL_law_157 : decode cL_law 157 = .ok (.iload 9, 2) := by decide +kernel
theorem dL_law_159 : decode cL_law 159 = .ok (.bipush 12, 2) := by decide +kernel
theorem dL_law_161 : decode cL_law 161 = .ok (.ishr, 1) := by decide +kernel
theorem dL_law_162 : decode cL_law 162 = .ok (.iload_n 2, 1) := by decide +kernel
theorem dL_law_163 : decode cL_law 163 = .ok (.iconst 1, 1) := by decide +kernel
theorem dL_law_164 : decode cL_law 164 = .ok (.isub, 1) := by decide +kernel
theorem dL_law_165 : decode cL_law 165 = .ok (.invokestatic 21, 3) := by decide +kernel
theorem dL_law_168 : decode cL_law 168 = .ok (.iadd, 1) := by decide +kernel
theorem dL_law_169 : decode cL_law 169 = .ok (.iload_n 2, 1) := by decide +kernel
theorem dL_law_170 : decode cL_law 170 = .ok (.irem, 1) := by decide +kernel
theorem dL_law_171 : decode cL_law 171 = .ok (.istore 12, 2) := by decide +kernel
theorem dL_law_173 : decode cL_law 173 = .ok (.aload_n 1, 1) := by decide +kernel
theorem dL_law_174 : decode cL_law 174 = .ok (.iload 11, 2) := by decide +kernel
theorem dL_law_176 : decode cL_law 176 = .ok (.iload 12, 2) := by decide +kernel
theorem dL_law_178 : decode cL_law 178 = .ok (.invokevirtual 29, 3) := by decide +kernel
theorem dL_law_181 : decode cL_law 181 = .ok (.iload 11, 2) := by decide +kernel
theorem dL_law_183 : decode cL_law 183 = .ok (.iload 6, 2) := by decide +kernel
theorem dL_law_185 : decode cL_law 185 = .ok (.if_icmp .ne 10, 3) := by decide +kernel
theorem dL_law_188 : decode cL_law 188 = .ok (.iload 12, 2) := by decide +kernel
theorem dL_law_190 : decode cL_law 190 = .ok (.iload 7, 2) := by decide +kernel
theorem dL_law_192 : decode cL_law 192 = .ok (.if_icmp .eq 7, 3) := by decide +kernel
theorem dL_law_195 : decode cL_law 195 = .ok (.iconst 1, 1) := by decide +kernel
theorem dL_law_196 : decode cL_law 196 = .ok (.goto 4, 3) := by decide +kernel
theorem dL_law_199 : decode cL_law 199 = .ok (.iconst 0, 1) := by decide +kernel
theorem dL_law_200 : decode cL_law 200 = .ok (.if_icmp .eq 5, 3) := by decide +kernel
theorem dL_law_203 : decode cL_law 203 = .ok (.iconst 0, 1) := by decide +kernel
theorem dL_law_204 : decode cL_law 204 = .ok (.ireturn, 1) := by decide +kernel
theorem dL_law_205 : decode cL_law 205 = .ok (.iload 11, 2) := by decide +kernel
theorem dL_law_207 : decode cL_law 207 = .ok (.istore 6, 2) := by decide +kernel
theorem dL_law_209 : decode cL_law 209 = .ok (.iload 12, 2) := by decide +kernel
theorem dL_law_211 : decode cL_law 211 = .ok (.istore 7, 2) := by decide +kernel
theorem dL_law_213 : decode cL_law 213 = .ok (.goto 70, 3) := by decide +kernel
theorem dL_law_216 : decode cL_law 216 = .ok (.iload 9, 2) := by decide +kernel
theorem dL_law_218 : decode cL_law 218 = .ok (.bipush 8, 2) := by decide +kernel
theorem dL_law_220 : decode cL_law 220 = .ok (.ishr, 1) := by decide +kernel
theorem dL_law_221 : decode cL_law 221 = .ok (.iload_n 2, 1) := by decide +kernel
theorem dL_law_222 : decode cL_law 222 = .ok (.invokestatic 21, 3) := by decide +kernel
theorem dL_law_225 : decode cL_law 225 = .ok (.istore 11, 2) := by decide +kernel
theorem dL_law_227 : decode cL_law 227 = .ok (.iconst 0, 1) := by decide +kernel
theorem dL_law_228 : decode cL_law 228 = .ok (.istore 12, 2) := by decide +kernel
theorem dL_law_230 : decode cL_law 230 = .ok (.iload 12, 2) := by decide +kernel
theorem dL_law_232 : decode cL_law 232 = .ok (.bipush 7, 2) := by decide +kernel
theorem dL_law_234 : decode cL_law 234 = .ok (.if_icmp .ge 35, 3) := by decide +kernel
theorem dL_law_237 : decode cL_law 237 = .ok (.aload_n 3, 1) := by decide +kernel
theorem dL_law_238 : decode cL_law 238 = .ok (.iload 12, 2) := by decide +kernel
theorem dL_law_240 : decode cL_law 240 = .ok (.iaload, 1) := by decide +kernel
theorem dL_law_241 : decode cL_law 241 = .ok (.iload 11, 2) := by decide +kernel
theorem dL_law_243 : decode cL_law 243 = .ok (.if_icmp .ne 20, 3) := by decide +kernel
theorem dL_law_246 : decode cL_law 246 = .ok (.aload 5, 2) := by decide +kernel
theorem dL_law_248 : decode cL_law 248 = .ok (.iload 12, 2) := by decide +kernel
theorem dL_law_250 : decode cL_law 250 = .ok (.iconst 2, 1) := by decide +kernel
theorem dL_law_251 : decode cL_law 251 = .ok (.aload 5, 2) := by decide +kernel
theorem dL_law_253 : decode cL_law 253 = .ok (.iload 12, 2) := by decide +kernel
theorem dL_law_255 : decode cL_law 255 = .ok (.iaload, 1) := by decide +kernel
theorem dL_law_256 : decode cL_law 256 = .ok (.imul, 1) := by decide +kernel
theorem dL_law_257 : decode cL_law 257 = .ok (.ldc 52, 2) := by decide +kernel
theorem dL_law_259 : decode cL_law 259 = .ok (.invokestatic 39, 3) := by decide +kernel
theorem dL_law_262 : decode cL_law 262 = .ok (.iastore, 1) := by decide +kernel
theorem dL_law_263 : decode cL_law 263 = .ok (.iinc 12 1, 3) := by decide +kernel
theorem dL_law_266 : decode cL_law 266 = .ok (.goto (-36), 3) := by decide +kernel
theorem dL_law_269 : decode cL_law 269 = .ok (.aload_n 1, 1) := by decide +kernel
theorem dL_law_270 : decode cL_law 270 = .ok (.iload 11, 2) := by decide +kernel
theorem dL_law_272 : decode cL_law 272 = .ok (.ldc2_w 53, 3) := by decide +kernel
theorem dL_law_275 : decode cL_law 275 = .ok (.invokevirtual 55, 3) := by decide +kernel
theorem dL_law_278 : decode cL_law 278 = .ok (.ifCond .ge 5, 3) := by decide +kernel
theorem dL_law_281 : decode cL_law 281 = .ok (.iconst 0, 1) := by decide +kernel
theorem dL_law_282 : decode cL_law 282 = .ok (.ireturn, 1) := by decide +kernel
theorem dL_law_283 : decode cL_law 283 = .ok (.ldc 7, 2) := by decide +kernel
theorem dL_law_285 : decode cL_law 285 = .ok (.istore 11, 2) := by decide +kernel
theorem dL_law_287 : decode cL_law 287 = .ok (.iconst (-1), 1) := by decide +kernel
theorem dL_law_288 : decode cL_law 288 = .ok (.istore 12, 2) := by decide +kernel
theorem dL_law_290 : decode cL_law 290 = .ok (.iconst 0, 1) := by decide +kernel
theorem dL_law_291 : decode cL_law 291 = .ok (.istore 13, 2) := by decide +kernel
theorem dL_law_293 : decode cL_law 293 = .ok (.iconst 0, 1) := by decide +kernel
theorem dL_law_294 : decode cL_law 294 = .ok (.istore 14, 2) := by decide +kernel
theorem dL_law_296 : decode cL_law 296 = .ok (.iload 14, 2) := by decide +kernel
theorem dL_law_298 : decode cL_law 298 = .ok (.iconst 1, 1) := by decide +kernel
theorem dL_law_299 : decode cL_law 299 = .ok (.iload_n 2, 1) := by decide +kernel
theorem dL_law_300 : decode cL_law 300 = .ok (.ishl, 1) := by decide +kernel
theorem dL_law_301 : decode cL_law 301 = .ok (.if_icmp .ge 97, 3) := by decide +kernel
theorem dL_law_304 : decode cL_law 304 = .ok (.iload 14, 2) := by decide +kernel
theorem dL_law_306 : decode cL_law 306 = .ok (.iload 6, 2) := by decide +kernel
theorem dL_law_308 : decode cL_law 308 = .ok (.ishr, 1) := by decide +kernel
theorem dL_law_309 : decode cL_law 309 = .ok (.iconst 1, 1) := by decide +kernel
theorem dL_law_310 : decode cL_law 310 = .ok (.iand, 1) := by decide +kernel
theorem dL_law_311 : decode cL_law 311 = .ok (.ifCond .eq 81, 3) := by decide +kernel
theorem dL_law_314 : decode cL_law 314 = .ok (.iload 14, 2) := by decide +kernel
theorem dL_law_316 : decode cL_law 316 = .ok (.iload 7, 2) := by decide +kernel
theorem dL_law_318 : decode cL_law 318 = .ok (.ishr, 1) := by decide +kernel
theorem dL_law_319 : decode cL_law 319 = .ok (.iconst 1, 1) := by decide +kernel
theorem dL_law_320 : decode cL_law 320 = .ok (.iand, 1) := by decide +kernel
theorem dL_law_321 : decode cL_law 321 = .ok (.iconst 1, 1) := by decide +kernel
theorem dL_law_322 : decode cL_law 322 = .ok (.if_icmp .ne 6, 3) := by decide +kernel
theorem dL_law_325 : decode cL_law 325 = .ok (.goto 67, 3) := by decide +kernel
theorem dL_law_328 : decode cL_law 328 = .ok (.iload 14, 2) := by decide +kernel
theorem dL_law_330 : decode cL_law 330 = .ok (.aload_n 3, 1) := by decide +kernel
theorem dL_law_331 : decode cL_law 331 = .ok (.aload 4, 2) := by decide +kernel
theorem dL_law_333 : decode cL_law 333 = .ok (.aload 5, 2) := by decide +kernel
theorem dL_law_335 : decode cL_law 335 = .ok (.invokestatic 35, 3) := by decide +kernel
theorem dL_law_338 : decode cL_law 338 = .ok (.istore 15, 2) := by decide +kernel
theorem dL_law_340 : decode cL_law 340 = .ok (.iload 15, 2) := by decide +kernel
theorem dL_law_342 : decode cL_law 342 = .ok (.iload 11, 2) := by decide +kernel
theorem dL_law_344 : decode cL_law 344 = .ok (.if_icmp .le 6, 3) := by decide +kernel
theorem dL_law_347 : decode cL_law 347 = .ok (.goto 45, 3) := by decide +kernel
theorem dL_law_350 : decode cL_law 350 = .ok (.iload 15, 2) := by decide +kernel
theorem dL_law_352 : decode cL_law 352 = .ok (.iload 11, 2) := by decide +kernel
theorem dL_law_354 : decode cL_law 354 = .ok (.if_icmp .ge 8, 3) := by decide +kernel
theorem dL_law_357 : decode cL_law 357 = .ok (.iload 14, 2) := by decide +kernel
theorem dL_law_359 : decode cL_law 359 = .ok (.goto 8, 3) := by decide +kernel
theorem dL_law_362 : decode cL_law 362 = .ok (.iload 12, 2) := by decide +kernel
theorem dL_law_364 : decode cL_law 364 = .ok (.iload 14, 2) := by decide +kernel
theorem dL_law_366 : decode cL_law 366 = .ok (.iand, 1) := by decide +kernel
theorem dL_law_367 : decode cL_law 367 = .ok (.istore 12, 2) := by decide +kernel
theorem dL_law_369 : decode cL_law 369 = .ok (.iload 15, 2) := by decide +kernel
theorem dL_law_371 : decode cL_law 371 = .ok (.iload 11, 2) := by decide +kernel
theorem dL_law_373 : decode cL_law 373 = .ok (.if_icmp .ge 8, 3) := by decide +kernel
theorem dL_law_376 : decode cL_law 376 = .ok (.iload 14, 2) := by decide +kernel
theorem dL_law_378 : decode cL_law 378 = .ok (.goto 8, 3) := by decide +kernel
theorem dL_law_381 : decode cL_law 381 = .ok (.iload 13, 2) := by decide +kernel
theorem dL_law_383 : decode cL_law 383 = .ok (.iload 14, 2) := by decide +kernel
theorem dL_law_385 : decode cL_law 385 = .ok (.ior, 1) := by decide +kernel
theorem dL_law_386 : decode cL_law 386 = .ok (.istore 13, 2) := by decide +kernel
theorem dL_law_388 : decode cL_law 388 = .ok (.iload 15, 2) := by decide +kernel
theorem dL_law_390 : decode cL_law 390 = .ok (.istore 11, 2) := by decide +kernel
theorem dL_law_392 : decode cL_law 392 = .ok (.iinc 14 1, 3) := by decide +kernel
theorem dL_law_395 : decode cL_law 395 = .ok (.goto (-99), 3) := by decide +kernel
theorem dL_law_398 : decode cL_law 398 = .ok (.aload_n 1, 1) := by decide +kernel
theorem dL_law_399 : decode cL_law 399 = .ok (.invokevirtual 59, 3) := by decide +kernel
theorem dL_law_402 : decode cL_law 402 = .ok (.iload 11, 2) := by decide +kernel
theorem dL_law_404 : decode cL_law 404 = .ok (.if_icmp .ne 43, 3) := by decide +kernel
theorem dL_law_407 : decode cL_law 407 = .ok (.aload_n 1, 1) := by decide +kernel
theorem dL_law_408 : decode cL_law 408 = .ok (.invokevirtual 62, 3) := by decide +kernel
theorem dL_law_411 : decode cL_law 411 = .ok (.iload 12, 2) := by decide +kernel
theorem dL_law_413 : decode cL_law 413 = .ok (.if_icmp .ne 34, 3) := by decide +kernel
theorem dL_law_416 : decode cL_law 416 = .ok (.aload_n 1, 1) := by decide +kernel
theorem dL_law_417 : decode cL_law 417 = .ok (.invokevirtual 65, 3) := by decide +kernel
theorem dL_law_420 : decode cL_law 420 = .ok (.iload 13, 2) := by decide +kernel
theorem dL_law_422 : decode cL_law 422 = .ok (.if_icmp .ne 25, 3) := by decide +kernel
theorem dL_law_425 : decode cL_law 425 = .ok (.aload_n 1, 1) := by decide +kernel
theorem dL_law_426 : decode cL_law 426 = .ok (.iload 12, 2) := by decide +kernel
theorem dL_law_428 : decode cL_law 428 = .ok (.invokevirtual 68, 3) := by decide +kernel
theorem dL_law_431 : decode cL_law 431 = .ok (.iload 11, 2) := by decide +kernel
theorem dL_law_433 : decode cL_law 433 = .ok (.if_icmp .ne 14, 3) := by decide +kernel
theorem dL_law_436 : decode cL_law 436 = .ok (.aload_n 1, 1) := by decide +kernel
theorem dL_law_437 : decode cL_law 437 = .ok (.iload 13, 2) := by decide +kernel
theorem dL_law_439 : decode cL_law 439 = .ok (.invokevirtual 68, 3) := by decide +kernel
theorem dL_law_442 : decode cL_law 442 = .ok (.iload 11, 2) := by decide +kernel
theorem dL_law_444 : decode cL_law 444 = .ok (.if_icmp .eq 5, 3) := by decide +kernel
theorem dL_law_447 : decode cL_law 447 = .ok (.iconst 0, 1) := by decide +kernel
theorem dL_law_448 : decode cL_law 448 = .ok (.ireturn, 1) := by decide +kernel
theorem dL_law_449 : decode cL_law 449 = .ok (.aload_n 1, 1) := by decide +kernel
theorem dL_law_450 : decode cL_law 450 = .ok (.iload 10, 2) := by decide +kernel
theorem dL_law_452 : decode cL_law 452 = .ok (.invokevirtual 71, 3) := by decide +kernel
theorem dL_law_455 : decode cL_law 455 = .ok (.istore 14, 2) := by decide +kernel
theorem dL_law_457 : decode cL_law 457 = .ok (.aload_n 1, 1) := by decide +kernel
theorem dL_law_458 : decode cL_law 458 = .ok (.iload 10, 2) := by decide +kernel
theorem dL_law_460 : decode cL_law 460 = .ok (.invokevirtual 74, 3) := by decide +kernel
theorem dL_law_463 : decode cL_law 463 = .ok (.istore 15, 2) := by decide +kernel
theorem dL_law_465 : decode cL_law 465 = .ok (.iload 14, 2) := by decide +kernel
theorem dL_law_467 : decode cL_law 467 = .ok (.ifCond .lt 46, 3) := by decide +kernel
theorem dL_law_470 : decode cL_law 470 = .ok (.iload 14, 2) := by decide +kernel
theorem dL_law_472 : decode cL_law 472 = .ok (.iload 15, 2) := by decide +kernel
theorem dL_law_474 : decode cL_law 474 = .ok (.if_icmp .gt 39, 3) := by decide +kernel
theorem dL_law_477 : decode cL_law 477 = .ok (.iload 15, 2) := by decide +kernel
theorem dL_law_479 : decode cL_law 479 = .ok (.aload 5, 2) := by decide +kernel
theorem dL_law_481 : decode cL_law 481 = .ok (.iload 10, 2) := by decide +kernel
theorem dL_law_483 : decode cL_law 483 = .ok (.iaload, 1) := by decide +kernel
theorem dL_law_484 : decode cL_law 484 = .ok (.if_icmp .gt 29, 3) := by decide +kernel
theorem dL_law_487 : decode cL_law 487 = .ok (.aload_n 1, 1) := by decide +kernel
theorem dL_law_488 : decode cL_law 488 = .ok (.iload 10, 2) := by decide +kernel
theorem dL_law_490 : decode cL_law 490 = .ok (.iload 15, 2) := by decide +kernel
theorem dL_law_492 : decode cL_law 492 = .ok (.invokevirtual 77, 3) := by decide +kernel
theorem dL_law_495 : decode cL_law 495 = .ok (.iload 11, 2) := by decide +kernel
theorem dL_law_497 : decode cL_law 497 = .ok (.if_icmp .ne 16, 3) := by decide +kernel
theorem dL_law_500 : decode cL_law 500 = .ok (.aload_n 1, 1) := by decide +kernel
theorem dL_law_501 : decode cL_law 501 = .ok (.iload 6, 2) := by decide +kernel
theorem dL_law_503 : decode cL_law 503 = .ok (.iload 7, 2) := by decide +kernel
theorem dL_law_505 : decode cL_law 505 = .ok (.invokevirtual 80, 3) := by decide +kernel
theorem dL_law_508 : decode cL_law 508 = .ok (.iload 11, 2) := by decide +kernel
theorem dL_law_510 : decode cL_law 510 = .ok (.if_icmp .eq 5, 3) := by decide +kernel
theorem dL_law_513 : decode cL_law 513 = .ok (.iconst 0, 1) := by decide +kernel
theorem dL_law_514 : decode cL_law 514 = .ok (.ireturn, 1) := by decide +kernel
theorem dL_law_515 : decode cL_law 515 = .ok (.iinc 8 1, 3) := by decide +kernel
theorem dL_law_518 : decode cL_law 518 = .ok (.goto (-461), 3) := by decide +kernel
theorem dL_law_521 : decode cL_law 521 = .ok (.iconst 1, 1) := by decide +kernel
theorem dL_law_522 : decode cL_law 522 = .ok (.ireturn, 1) := by decide +kernel
abbrev vwCl : List vw_C := [(RX0, TX0, 3), (RX1, TX1, 3), (RX2, TX2, 4), (RX3, TX3, 6), (RX4, TX4, 6), (RX5, TX5, 7), (RX6, TX6, 5)]
end
section
/-! THE FRAME OF ALL WALKS: one world of numbered cells, one memory of whole numbers; every row of the kit that is used, said over it -/
abbrev Ix : Type := Nat × Nat
abbrev Mem : Type := Ix → Int → Int
def iI (z : Int) : Int32 := Int32.ofInt z
def iL (z : Int) : Int64 := Int64.ofInt z
abbrev jI (z : Int) : Value := .int (iI z)
theorem iI_add (x y : Int) : iI x + iI y = iI (x + y) := (Int32.ofInt_add x y).symm
theorem iI_sub (x y : Int) : iI x - iI y = iI (x - y) := (Int32.ofInt_sub x y).symm
theorem iI_mul (x y : Int) : iI x * iI y = iI (x * y) := (Int32.ofInt_mul x y).symm
theorem iI_neg (x : Int) : -iI x = iI (-x) := (Int32.ofInt_neg x).symm
theorem iL_add (x y : Int) : iL x + iL y = iL (x + y) := (Int64.ofInt_add x y).symm
theorem iL_mul (x y : Int) : iL x * iL y = iL (x * y) := (Int64.ofInt_mul x y).symm
def rg (z : Int) : Prop := -2147483648 ≤ z ∧ z < 2147483648
theorem iI_toInt {z : Int} (h : rg z) : (iI z).toInt = z := by
  obtain ⟨h1, h2⟩ := h
  exact Int32.toInt_ofInt_of_le (by simp; omega) (by simp; omega)
theorem iI_self (x : Int32) : iI x.toInt = x := Int32.ofInt_toInt x
theorem iI_rg (x : Int32) : rg x.toInt := ⟨by have := Int32.le_toInt x; simpa using this, by have := Int32.toInt_lt x; simpa using this⟩
theorem iI_lt {x y : Int} (hx : rg x) (hy : rg y) : iI x < iI y ↔ x < y := by rw [Int32.lt_iff_toInt_lt, iI_toInt hx, iI_toInt hy]
theorem iI_le {x y : Int} (hx : rg x) (hy : rg y) : iI x ≤ iI y ↔ x ≤ y := by rw [Int32.le_iff_toInt_le, iI_toInt hx, iI_toInt hy]
theorem iI_eq {x y : Int} (hx : rg x) (hy : rg y) : iI x = iI y ↔ x = y := by rw [← Int32.toInt_inj, iI_toInt hx, iI_toInt hy]
theorem iI_0 : (0 : Int32) = iI 0 := rfl
theorem iI_clamp {z : Int} (h0 : 0 ≤ z) (h : z < 2147483648) : (iI z).toNatClampNeg = z.toNat := by
  show (iI z).toInt.toNat = z.toNat
  rw [iI_toInt ⟨by omega, h⟩]
theorem iI_in {z : Int} {n : Nat} (h0 : 0 ≤ z) (h : z < n) (hn : n < 2147483648) : vp_in (iI z) n := by
  rw [vp_in_iff, iI_toInt ⟨by omega, by omega⟩]
  exact ⟨h0, h⟩
theorem iI_nat (n : Nat) : Int32.ofNat n = iI (n : Int) := rfl
/-- the words of the tables that any method may be handed -/
def TB : List Cond := lw_tbl.filter goodWord
def isNest : Cond → Bool
  | .fieldLinkNest .. => true
  | .methodLinkNest .. => true
  | .castable .. => true
  | .declares .. => true
  | _ => false
def NW : List Cond := lw_tbl.filter isNest
theorem TB_mem {w : Cond} (h : w ∈ lw_tbl) (hg : goodWord w = true) : w ∈ TB := List.mem_filter.mpr ⟨h, hg⟩
theorem NW_mem {w : Cond} (h : w ∈ lw_tbl) (hg : isNest w = true) : w ∈ NW := List.mem_filter.mpr ⟨h, hg⟩
theorem TB_good {w : Cond} (h : w ∈ TB) : goodWord w = true := (List.mem_filter.mp h).2
/-- the texts that exceptions carry -/
def strs : List (Nat × String) := lw_tbl.filterMap fun w => match w with
  | .stringRef "FlowNetwork" k t => some (k, t)
  | _ => none
/-- which exception is no other -/
def xnot : List (String × String) := []
def Sx (U : State) : Prop := (∀ q ∈ strs, ∃ sa : Nat, vk_R "FlowNetwork" q.1 q.2 sa U) ∧ ∀ q ∈ xnot, va_Nc q.1 q.2 U
theorem warmD {x : MethodName} {s U : State} (hW : s.WarmedH U.vm) (hZ : va_Nw (.declares x) s) : va_Nw (.declares x) U := va_tabs rfl (rfl : (s.setVm U.vm).vm = U.vm) (by rw [Cond.declares_setVm hW.alike]; exact hZ)
def Nx (U : State) : Prop := ∀ w ∈ NW, va_Nw w U
theorem Nx.warm {s U : State} (hW : s.WarmedH U.vm) (h : Nx s) : Nx U := by
  intro w hw
  have h1 := h w hw
  have h2 : isNest w = true := (List.mem_filter.mp hw).2
  cases w <;> first | exact va_Nw.warmF hW h1 | exact va_Nw.warmM hW h1 | exact va_Nw.warmC hW h1 | exact warmD hW h1 | cases h2
theorem Nx.same {u U : State} (hv : u.vm = U.vm) (h : Nx u) : Nx U := by
  intro w hw
  have h1 := h w hw
  have h2 : isNest w = true := (List.mem_filter.mp hw).2
  cases w <;> first | exact va_Nw.same rfl hv h1 | cases h2
theorem Sx.warm {s U : State} (hW : s.WarmedH U.vm) (h : Sx s) : Sx U := ⟨fun q hq => (h.1 q hq).elim fun sa h1 => ⟨sa, h1.warm hW⟩, fun q hq => (h.2 q hq).moved hW.alike⟩
theorem Sx.same {u U : State} (hv : u.vm = U.vm) (h : Sx u) : Sx U := ⟨fun q hq => (h.1 q hq).elim fun sa h1 => ⟨sa, h1.same hv.symm⟩, fun q hq => (h.2 q hq).moved (by rw [hv]; exact Vm.Alike.refl U.vm)⟩
abbrev tysL (cs : Nat → ClassId) : List (ClassId × FieldType) := [(cs 0, .int), (cs 1, .array .int)]
/-! the cells -/
abbrev arI (cs : Nat → ClassId) (σ : Mem) (i : Ix) (n : Nat) : va_E := .inl (cs 0, n, .inl (fun j => iI (σ i (j : Int))))
abbrev arQ (cs : Nat → ClassId) (n : Nat) (f : Nat → Nat) : va_E := .inl (cs 1, n, .inr (.inr (.inr (.inr (fun j => if j < n then some (f j) else none)))))
def encN (cs : Nat → ClassId) (ad : Ix → Nat) (σ : Mem) (k : Nat) : va_E := match k with
  | 0 => .inr (4, [jI (σ (0, 0) 0), jI (σ (0, 1) 0), .ref (ad (0, 2)), .ref (ad (0, 3)), .ref (ad (0, 4)), .ref (ad (0, 5))])
  | 2 => arI cs σ (0, 2) 80
  | 3 => arI cs σ (0, 3) 80
  | 4 => arI cs σ (0, 4) 24
  | _ => arQ cs 24 (fun v => ad (1, v))
def encL (cs : Nat → ClassId) (ad : Ix → Nat) (σ : Mem) (k : Nat) : va_E := match k with
  | 0 => .inr (2, [jI (σ (3, 0) 0), .ref (ad (3, 3)), .ref (ad (3, 1)), .ref (ad (3, 2))])
  | 1 => arI cs σ (3, 1) 8
  | 2 => arI cs σ (3, 2) 8
  | 3 => arQ cs 8 (fun v => ad (2, v))
  | 4 => .inr (0, [jI (σ (3, 4) 0), .ref (ad (3, 5)), .ref (ad (3, 6))])
  | 5 => arI cs σ (3, 5) 300
  | 6 => arI cs σ (3, 6) 24
  | _ => .inr (6, [.ref (ad (0, 0)), .ref (ad (6, 0)), .ref (ad (7, 0)), .ref (ad (3, 0)), .ref (ad (3, 4))])
def encM (cs : Nat → ClassId) (σ : Mem) (k : Nat) : va_E := match k with
  | 0 => arI cs σ (4, 0) 7
  | 1 => arI cs σ (4, 1) 7
  | 2 => arI cs σ (4, 2) 7
  | _ => .inr (6, [])
def encO : va_E := .inr (6, [])
def encB (cs : Nat → ClassId) (ad : Ix → Nat) (σ : Mem) (g k : Nat) : va_E := match k with
  | 0 => .inr (3, [.ref (ad (0, 0)), .ref (ad (g, 1)), .ref (ad (g, 4)), jI (σ (g, 8) 0), jI (σ (g, 9) 0), jI (σ (g, 10) 0)])
  | 1 => .inr (1, [.ref (ad (0, 0)), .ref (ad (g, 2)), .ref (ad (g, 3))])
  | 2 => arI cs σ (g, 2) 80
  | 3 => arI cs σ (g, 3) 80
  | 4 => .inr (5, [.ref (ad (0, 0)), .ref (ad (g, 1)), .ref (ad (g, 5)), .ref (ad (g, 6)), .ref (ad (g, 7)), jI (σ (g, 11) 0), jI (σ (g, 12) 0)])
  | 5 => arI cs σ (g, 5) 24
  | 6 => arI cs σ (g, 6) 24
  | 7 => arI cs σ (g, 7) 24
  | _ => .inr (6, [])
def enc (cs : Nat → ClassId) (ad : Ix → Nat) (σ : Mem) (i : Ix) : va_E := match i with
  | (0, k) => encN cs ad σ k
  | (1, v) => arI cs σ (1, v) 80
  | (2, v) => arI cs σ (2, v) 80
  | (3, k) => encL cs ad σ k
  | (4, k) => encM cs σ k
  | (5, k) => encO
  | (b + 6, k) => encB cs ad σ (b + 6) k
def idsF : List Ix := [(0, 0), (0, 2), (0, 3), (0, 4), (0, 5)] ++ (List.range 24).map (fun v => (1, v)) ++ (List.range 8).map (fun v => (2, v)) ++ [(3, 0), (3, 1), (3, 2), (3, 3), (3, 4), (3, 5), (3, 6), (3, 7)] ++ [(6, 0), (6, 1), (6, 2), (6, 3), (6, 4), (6, 5), (6, 6), (6, 7)] ++ [(7, 0), (7, 1), (7, 2), (7, 3), (7, 4), (7, 5), (7, 6), (7, 7)]
def idsM : List Ix := [(4, 0), (4, 1), (4, 2)]
def idsA : List Ix := idsF ++ idsM
theorem idsF_nd : idsF.Nodup := by decide +kernel
theorem idsM_nd : idsM.Nodup := by decide +kernel
theorem idsA_nd : idsA.Nodup := by decide +kernel
def mset (σ : Mem) (i : Ix) (z x : Int) : Mem := fun q j => if q = i ∧ j = z then x else σ q j
theorem mset_same {σ : Mem} {i : Ix} {z x : Int} : mset σ i z x i z = x := if_pos ⟨rfl, rfl⟩
theorem mset_id {σ : Mem} {i q : Ix} {z x : Int} (h : q ≠ i) : mset σ i z x q = σ q := funext fun _ => if_neg fun e => h e.1
theorem mset_ix {σ : Mem} {i : Ix} {z x j : Int} (h : j ≠ z) : mset σ i z x i j = σ i j := if_neg fun e => h e.2
theorem mset_at {σ : Mem} {i : Ix} {z x j : Int} : mset σ i z x i j = if j = z then x else σ i j := by
  by_cases h : j = z
  · rw [if_pos h, h, mset_same]
  · rw [if_neg h, mset_ix h]
/-- the object that holds a number -/
def owner (q : Ix) : Ix := match q with
  | (0, 0) => (0, 0)
  | (0, 1) => (0, 0)
  | (b + 6, 8) => (b + 6, 0)
  | (b + 6, 9) => (b + 6, 0)
  | (b + 6, 10) => (b + 6, 0)
  | (b + 6, 11) => (b + 6, 4)
  | (b + 6, 12) => (b + 6, 4)
  | q => q
theorem enc_reads {cs : Nat → ClassId} {ad : Ix → Nat} {σ τ : Mem} : ∀ {i : Ix}, (∀ q, owner q = i → σ q = τ q) → enc cs ad σ i = enc cs ad τ i
  | (0, k), h => by
    show encN cs ad σ k = encN cs ad τ k
    unfold encN
    split
    · rw [h (0, 0) rfl, h (0, 1) rfl]
    · rw [arI, h (0, 2) rfl]
    · rw [arI, h (0, 3) rfl]
    · rw [arI, h (0, 4) rfl]
    · rfl
  | (1, v), h => by show arI cs σ (1, v) 80 = arI cs τ (1, v) 80; rw [arI, h (1, v) rfl]
  | (2, v), h => by show arI cs σ (2, v) 80 = arI cs τ (2, v) 80; rw [arI, h (2, v) rfl]
  | (3, k), h => by
    show encL cs ad σ k = encL cs ad τ k
    unfold encL
    split
    · rw [h (3, 0) rfl]
    · rw [arI, h (3, 1) rfl]
    · rw [arI, h (3, 2) rfl]
    · rfl
    · rw [h (3, 4) rfl]
    · rw [arI, h (3, 5) rfl]
    · rw [arI, h (3, 6) rfl]
    · rfl
  | (4, k), h => by
    show encM cs σ k = encM cs τ k
    unfold encM
    split
    · rw [arI, h (4, 0) rfl]
    · rw [arI, h (4, 1) rfl]
    · rw [arI, h (4, 2) rfl]
    · rfl
  | (5, k), h => rfl
  | (b + 6, k), h => by
    show encB cs ad σ (b + 6) k = encB cs ad τ (b + 6) k
    unfold encB
    split
    · rw [h (b + 6, 8) rfl, h (b + 6, 9) rfl, h (b + 6, 10) rfl]
    · rfl
    · rw [arI, h (b + 6, 2) rfl]
    · rw [arI, h (b + 6, 3) rfl]
    · rw [h (b + 6, 11) rfl, h (b + 6, 12) rfl]
    · rw [arI, h (b + 6, 5) rfl]
    · rw [arI, h (b + 6, 6) rfl]
    · rw [arI, h (b + 6, 7) rfl]
    · rfl

/-! the world in a heap, and one walk over it -/
def Pic (D : va_G) (cs : Nat → ClassId) (ids : List Ix) (ad : Ix → Nat) (σ : Mem) (H : Heap) : Prop := ∀ i ∈ ids, va_at D vwCl (ad i, enc cs ad σ i) H
def Apart (ids : List Ix) (ad : Ix → Nat) : Prop := ∀ i ∈ ids, ∀ j ∈ ids, ad i = ad j → i = j
def Rg (ids : List Ix) (ad : Ix → Nat) : Nat → Prop := fun q => ∃ i ∈ ids, ad i = q
def Wo (D : va_G) (cs : Nat → ClassId) (ids : List Ix) (ad : Ix → Nat) (σ : Mem) (U : State) : Prop := Pic D cs ids ad σ U.heap ∧ va_K D vwCl (tysL cs) U ∧ Nx U ∧ Sx U
theorem Wo.same {D : va_G} {cs : Nat → ClassId} {ids : List Ix} {ad : Ix → Nat} {σ : Mem} {u U : State} (hh : u.heap = U.heap) (hv : u.vm = U.vm) (h : Wo D cs ids ad σ u) : Wo D cs ids ad σ U := ⟨by rw [← hh]; exact h.1, va_K.moved (by rw [hv]; exact Vm.Alike.refl U.vm) h.2.1, h.2.2.1.same hv, h.2.2.2.same hv⟩
def Cx (p : Program) (s : State) (m : MethodId) (args : Array Value) (meth : Method) (c : Code) (cc : ByteArray) (nL : Nat) (own : String) : Prop :=
  p.tables.exec = Jvm.exec ∧ c.code = cc ∧ c.maxLocals = nL ∧ s.vm.findClass own = some m.cls ∧ (∀ w ∈ TB, w.before args s = true) ∧ meth.locks = false
def Kx (D : va_G) (cs : Nat → ClassId) (ids : List Ix) (ad : Ix → Nat) (A : Nat → Prop) (s : State) : Prop :=
  va_K D vwCl (tysL cs) s ∧ Apart ids ad ∧ (∀ i ∈ ids, A (ad i)) ∧ ids.Nodup ∧ Nx s ∧ Sx s
/-- the locals: what the list says of a place, the place holds -/
def lo_has (ls : Array Slot) (nL : Nat) (lo : List (Option Value)) : Prop := ls.size = nL ∧ lv_wf ls ∧ ∀ (i : Nat) (v : Value), lo[i]? = some (some v) → ls[i]? = some (.val v)
def lo_l (lo : List (Option Value)) : List (Nat × Value) := lo.zipIdx.filterMap fun q => q.1.map fun v => (q.2, v)
theorem lo_l_mem {lo : List (Option Value)} {i : Nat} {v : Value} : (i, v) ∈ lo_l lo ↔ lo[i]? = some (some v) := by
  unfold lo_l
  rw [List.mem_filterMap]
  constructor
  · rintro ⟨⟨o, k⟩, hm, he⟩
    cases o with
    | none => cases he
    | some w =>
      simp only [Option.map_some, Option.some.injEq, Prod.mk.injEq] at he
      obtain ⟨rfl, rfl⟩ := he
      exact List.mem_zipIdx_iff_getElem?.mp hm
  · intro h
    exact ⟨(some v, i), List.mem_zipIdx_iff_getElem?.mpr h, rfl⟩
theorem lo_lv {ls : Array Slot} {nL : Nat} {lo : List (Option Value)} (h : lo_has ls nL lo) : lv_has ls nL (lo_l lo) := ⟨h.1, h.2.1, fun q hq => h.2.2 q.1 q.2 (lo_l_mem.mp hq)⟩
def wideAt (lo : List (Option Value)) (i : Nat) : Bool := match i with
  | 0 => false
  | k + 1 => match lo[k]? with
    | some (some v) => v.category == 2
    | _ => false
theorem lo_put1 {ls : Array Slot} {nL i : Nat} {v : Value} {lo : List (Option Value)} (hw : wideAt lo i = false) (h : lv_has ls nL ((i, v) :: (lo_l lo).filter (fun q => !(q.1 == i) && !(q.1 + 1 == i && q.2.category == 2)))) : lo_has ls nL (lo.set i (some v)) := by
  refine ⟨h.1, h.2.1, fun j w hj => ?_⟩
  by_cases hji : j = i
  · subst hji
    have hl : j < lo.length := by
      have := (List.getElem?_eq_some_iff.mp hj).1
      simpa using this
    rw [List.getElem?_set_self hl] at hj
    cases hj
    exact h.2.2 (j, v) List.mem_cons_self
  · rw [List.getElem?_set_ne (Ne.symm hji)] at hj
    refine h.2.2 (j, w) (List.mem_cons_of_mem _ (List.mem_filter.mpr ⟨lo_l_mem.mpr hj, ?_⟩))
    have h1 : (j == i) = false := by simpa using hji
    simp only [h1, Bool.not_false, Bool.true_and, Bool.not_eq_true', Bool.and_eq_false_iff]
    by_cases h2 : j + 1 = i
    · right
      subst h2
      have hw : (match lo[j]? with
        | some (some v) => v.category == 2
        | _ => false) = false := hw
      rw [hj] at hw
      exact hw
    · left
      simpa using h2
theorem lo_put2 {ls : Array Slot} {nL i : Nat} {v : Value} {lo : List (Option Value)} (hw : wideAt lo i = false) (h : lv_has ls nL ((i, v) :: (lo_l lo).filter (fun q => !(q.1 == i) && (!(q.1 == i + 1) && !(q.1 + 1 == i && q.2.category == 2))))) : lo_has ls nL ((lo.set i (some v)).set (i + 1) none) := by
  refine ⟨h.1, h.2.1, fun j w hj => ?_⟩
  by_cases hj1 : j = i + 1
  · subst hj1
    have hl : i + 1 < lo.length := by
      have := (List.getElem?_eq_some_iff.mp hj).1
      simpa using this
    rw [List.getElem?_set_self (by simpa using hl)] at hj
    cases hj
  rw [List.getElem?_set_ne (Ne.symm hj1)] at hj
  by_cases hji : j = i
  · subst hji
    have hl : j < lo.length := by
      have := (List.getElem?_eq_some_iff.mp hj).1
      simpa using this
    rw [List.getElem?_set_self hl] at hj
    cases hj
    exact h.2.2 (j, v) List.mem_cons_self
  · rw [List.getElem?_set_ne (Ne.symm hji)] at hj
    refine h.2.2 (j, w) (List.mem_cons_of_mem _ (List.mem_filter.mpr ⟨lo_l_mem.mpr hj, ?_⟩))
    have h1 : (j == i) = false := by simpa using hji
    have h3 : (j == i + 1) = false := by simpa using hj1
    simp only [h1, h3, Bool.not_false, Bool.true_and, Bool.not_eq_true', Bool.and_eq_false_iff]
    by_cases h2 : j + 1 = i
    · right
      subst h2
      have hw : (match lo[j]? with
        | some (some v) => v.category == 2
        | _ => false) = false := hw
      rw [hj] at hw
      exact hw
    · left
      simpa using h2
def loLe : List (Option Value) → List (Option Value) → Prop
  | [], _ => True
  | none :: a, [] => loLe a []
  | none :: a, _ :: b => loLe a b
  | some _ :: _, [] => False
  | some v :: a, y :: b => y = some v ∧ loLe a b
theorem loLe.use : ∀ {a b : List (Option Value)}, loLe a b → ∀ (i : Nat) (v : Value), a[i]? = some (some v) → b[i]? = some (some v)
  | [], _, _, i, v, h => by simp at h
  | none :: a, [], hl, i, v, h => by
    cases i with
    | zero => cases h
    | succ i =>
      have := loLe.use (a := a) (b := []) hl i v h
      simp at this
  | none :: a, y :: b, hl, i, v, h => by
    cases i with
    | zero => cases h
    | succ i => exact loLe.use (a := a) (b := b) hl i v h
  | some w :: a, [], hl, i, v, h => hl.elim
  | some w :: a, y :: b, hl, i, v, h => by
    cases i with
    | zero =>
      obtain ⟨h1, -⟩ := hl
      rw [h1]
      exact h
    | succ i => exact loLe.use (a := a) (b := b) hl.2 i v h
theorem lo_has.weak {ls : Array Slot} {nL : Nat} {lo lo' : List (Option Value)} (h : lo_has ls nL lo) (hl : loLe lo' lo) : lo_has ls nL lo' := ⟨h.1, h.2.1, fun i v hi => h.2.2 i v (hl.use i v hi)⟩
def entryLo : List Value → Nat → List (Option Value)
  | _, 0 => []
  | [], n + 1 => none :: entryLo [] n
  | v :: vs, n + 1 => if v.category = 2 then (match n with
    | 0 => [some v]
    | k + 1 => some v :: none :: entryLo vs k) else some v :: entryLo vs n
theorem entryLo_nil : ∀ (n i : Nat) (v : Value), (entryLo [] n)[i]? = some (some v) → False
  | 0, i, v, h => by simp [entryLo] at h
  | n + 1, i, v, h => by
    cases i with
    | zero => cases h
    | succ i => exact entryLo_nil n i v h
theorem entryLo_mem : ∀ (vs : List Value) (n b i : Nat) (v : Value), (entryLo vs n)[i]? = some (some v) → (b + i, v) ∈ lv_args b vs
  | [], n, b, i, v, h => (entryLo_nil n i v h).elim
  | w :: vs, 0, b, i, v, h => by simp [entryLo] at h
  | w :: vs, n + 1, b, i, v, h => by
    unfold entryLo at h
    unfold lv_args
    by_cases hc : w.category = 2
    · rw [if_pos hc] at h ⊢
      cases n with
      | zero =>
        cases i with
        | zero => cases h; exact List.mem_cons_self
        | succ i => simp at h
      | succ k =>
        cases i with
        | zero => cases h; exact List.mem_cons_self
        | succ i =>
          cases i with
          | zero => cases h
          | succ i =>
            have := entryLo_mem vs k (b + 2) i v h
            rw [show b + (i + 1 + 1) = b + 2 + i by omega]
            exact List.mem_cons_of_mem _ this
    · rw [if_neg hc] at h ⊢
      cases i with
      | zero => cases h; exact List.mem_cons_self
      | succ i =>
        have := entryLo_mem vs n (b + 1) i v h
        rw [show b + (i + 1) = b + 1 + i by omega]
        exact List.mem_cons_of_mem _ this
theorem lo_entry (vs : List Value) {n : Nat} (h : (lg_sl vs).length ≤ n) : lo_has ((lg_sl vs ++ List.replicate (n - (lg_sl vs).length) Slot.unset).toArray) n (entryLo vs n) := by
  have h1 := lv_entry vs h
  refine ⟨h1.1, h1.2.1, fun i v hi => ?_⟩
  have := entryLo_mem vs n 0 i v hi
  rw [Nat.zero_add] at this
  exact h1.2.2 (i, v) this
def Wx (p : Program) (l : Launch) (e : Env) (R : Room) (s : State) (m : MethodId) (args : Array Value) (below : List Frame) (meth : Method) (c : Code) (D : va_G) (cs : Nat → ClassId) (ids : List Ix) (ad : Ix → Nat) (A : Nat → Prop) (H0 : Heap) (nL : Nat) (Q : State → Prop) (mc ms : Nat) (σ : Mem) (pc : Nat) (lo : List (Option Value)) (st : List Value) : Prop :=
  ∀ (H : Heap) (locs : List Loc) (ls : Array Slot), Pic D cs ids ad σ H → va_S A H0 H locs → lo_has ls nL lo → W p l e R s m args below meth c H locs mc ms Q (F0 m pc ls st)
end
section
section ZR
variable {p : Program} {l : Launch} {e : Env} {R : Room} {s : State} {m : MethodId} {args : Array Value} {below : List Frame} {meth : Method} {c : Code} {D : va_G} {cs : Nat → ClassId} {ids : List Ix} {ad : Ix → Nat} {A : Nat → Prop} {H0 : Heap} {nL : Nat} {Q : State → Prop} {mc ms : Nat} {σ : Mem} {pc : Nat} {lo : List (Option Value)} {st : List Value} {cc : ByteArray} {own : String}
theorem Wx.weak {lo' : List (Option Value)} (h : loLe lo' lo) (k : Wx p l e R s m args below meth c D cs ids ad A H0 nL Q mc ms σ pc lo' st) : Wx p l e R s m args below meth c D cs ids ad A H0 nL Q mc ms σ pc lo st := fun H locs ls hP hS hl => k H locs ls hP hS (hl.weak h)
theorem Wx.mem {τ : Mem} (h : σ = τ) (k : Wx p l e R s m args below meth c D cs ids ad A H0 nL Q mc ms τ pc lo st) : Wx p l e R s m args below meth c D cs ids ad A H0 nL Q mc ms σ pc lo st := h ▸ k
theorem Wx.widen {mc' ms' : Nat} (h1 : mc ≤ mc') (h2 : ms ≤ ms') (k : Wx p l e R s m args below meth c D cs ids ad A H0 nL Q mc' ms' σ pc lo st) : Wx p l e R s m args below meth c D cs ids ad A H0 nL Q mc ms σ pc lo st := fun H locs ls hP hS hl => W.widen h1 h2 (k H locs ls hP hS hl)
-- constants
theorem zr_iconst (X : Cx p s m args meth c cc nL own) {n : Int} (d : decode cc pc = .ok (.iconst n, 1)) (k : Wx p l e R s m args below meth c D cs ids ad A H0 nL Q mc ms σ (pc + 1) lo (jI n :: st)) : Wx p l e R s m args below meth c D cs ids ad A H0 nL Q mc ms σ pc lo st := fun H locs ls hP hS hl => lv_iconst X.1 X.2.1 d rfl (k H locs ls hP hS hl)
theorem zr_bipush (X : Cx p s m args meth c cc nL own) {n : Int} (d : decode cc pc = .ok (.bipush n, 2)) (hv : (Int8.ofInt n).toInt32 = iI n) (k : Wx p l e R s m args below meth c D cs ids ad A H0 nL Q mc ms σ (pc + 2) lo (jI n :: st)) : Wx p l e R s m args below meth c D cs ids ad A H0 nL Q mc ms σ pc lo st := fun H locs ls hP hS hl => lv_bipush X.1 X.2.1 d hv (k H locs ls hP hS hl)
theorem zr_sipush (X : Cx p s m args meth c cc nL own) {n : Int} (d : decode cc pc = .ok (.sipush n, 3)) (hv : (Int16.ofInt n).toInt32 = iI n) (k : Wx p l e R s m args below meth c D cs ids ad A H0 nL Q mc ms σ (pc + 3) lo (jI n :: st)) : Wx p l e R s m args below meth c D cs ids ad A H0 nL Q mc ms σ pc lo st := fun H locs ls hP hS hl => lv_sipush X.1 X.2.1 d hv (k H locs ls hP hS hl)
theorem zr_ldc (X : Cx p s m args meth c cc nL own) {index : Nat} {v : Int32} {n : Int} (d : decode cc pc = .ok (.ldc index, 2)) (hw : Cond.constant own index v ∈ TB) (hv : v = iI n) (k : Wx p l e R s m args below meth c D cs ids ad A H0 nL Q mc ms σ (pc + 2) lo (jI n :: st)) : Wx p l e R s m args below meth c D cs ids ad A H0 nL Q mc ms σ pc lo st := fun H locs ls hP hS hl => lv_ldc X.1 X.2.1 X.2.2.2.1 (X.2.2.2.2.1 _ hw) d (hv ▸ k H locs ls hP hS hl)
theorem zr_ldc2l (X : Cx p s m args meth c cc nL own) {index : Nat} {v : Int64} {n : Int} (d : decode cc pc = .ok (.ldc2_w index, 3)) (hw : Cond.constantLong own index v ∈ TB) (hv : v = iL n) (k : Wx p l e R s m args below meth c D cs ids ad A H0 nL Q mc ms σ (pc + 3) lo (.long (iL n) :: st)) : Wx p l e R s m args below meth c D cs ids ad A H0 nL Q mc ms σ pc lo st := fun H locs ls hP hS hl => lv_ldc2 X.1 X.2.1 X.2.2.2.1 (X.2.2.2.2.1 _ hw) d (hv ▸ k H locs ls hP hS hl)
theorem zr_ldc2d (X : Cx p s m args meth c cc nL own) {index : Nat} {v : UInt64} (d : decode cc pc = .ok (.ldc2_w index, 3)) (hw : Cond.constantDouble own index v ∈ TB) (k : Wx p l e R s m args below meth c D cs ids ad A H0 nL Q mc ms σ (pc + 3) lo (.double v :: st)) : Wx p l e R s m args below meth c D cs ids ad A H0 nL Q mc ms σ pc lo st := fun H locs ls hP hS hl => lv_ldc2d X.1 X.2.1 X.2.2.2.1 (X.2.2.2.2.1 _ hw) d (k H locs ls hP hS hl)
theorem zr_lconst (X : Cx p s m args meth c cc nL own) {n : Fin 2} (d : decode cc pc = .ok (.lconst n, 1)) (k : Wx p l e R s m args below meth c D cs ids ad A H0 nL Q mc ms σ (pc + 1) lo (.long (iL ((n : Nat) : Int)) :: st)) : Wx p l e R s m args below meth c D cs ids ad A H0 nL Q mc ms σ pc lo st := fun H locs ls hP hS hl => lv_lconst X.1 X.2.1 d rfl (k H locs ls hP hS hl)
theorem zr_dconst0 (X : Cx p s m args meth c cc nL own) (d : decode cc pc = .ok (.dconst 0, 1)) (k : Wx p l e R s m args below meth c D cs ids ad A H0 nL Q mc ms σ (pc + 1) lo (.double 0 :: st)) : Wx p l e R s m args below meth c D cs ids ad A H0 nL Q mc ms σ pc lo st := fun H locs ls hP hS hl => lv_dconst0 X.1 X.2.1 d (k H locs ls hP hS hl)
theorem zr_dconst1 (X : Cx p s m args meth c cc nL own) (d : decode cc pc = .ok (.dconst 1, 1)) (k : Wx p l e R s m args below meth c D cs ids ad A H0 nL Q mc ms σ (pc + 1) lo (.double 4607182418800017408 :: st)) : Wx p l e R s m args below meth c D cs ids ad A H0 nL Q mc ms σ pc lo st := fun H locs ls hP hS hl => lv_dconst1 X.1 X.2.1 d (k H locs ls hP hS hl)
-- locals
theorem zr_iload (X : Cx p s m args meth c cc nL own) {i : Nat} {x : Int32} (d : decode cc pc = .ok (.iload i, 2)) (h : lo[i]? = some (some (.int x))) (k : Wx p l e R s m args below meth c D cs ids ad A H0 nL Q mc ms σ (pc + 2) lo (.int x :: st)) : Wx p l e R s m args below meth c D cs ids ad A H0 nL Q mc ms σ pc lo st := fun H locs ls hP hS hl => lv_iload X.1 X.2.1 d (hl.2.2 _ _ h) (k H locs ls hP hS hl)
theorem zr_iloadn (X : Cx p s m args meth c cc nL own) {i : Fin 4} {x : Int32} (d : decode cc pc = .ok (.iload_n i, 1)) (h : lo[(i : Nat)]? = some (some (.int x))) (k : Wx p l e R s m args below meth c D cs ids ad A H0 nL Q mc ms σ (pc + 1) lo (.int x :: st)) : Wx p l e R s m args below meth c D cs ids ad A H0 nL Q mc ms σ pc lo st := fun H locs ls hP hS hl => lv_iload_n X.1 X.2.1 d rfl (hl.2.2 _ _ h) (k H locs ls hP hS hl)
theorem zr_aload (X : Cx p s m args meth c cc nL own) {i : Nat} {x : Nat} (d : decode cc pc = .ok (.aload i, 2)) (h : lo[i]? = some (some (.ref x))) (k : Wx p l e R s m args below meth c D cs ids ad A H0 nL Q mc ms σ (pc + 2) lo (.ref x :: st)) : Wx p l e R s m args below meth c D cs ids ad A H0 nL Q mc ms σ pc lo st := fun H locs ls hP hS hl => lv_aload X.1 X.2.1 d (hl.2.2 _ _ h) (k H locs ls hP hS hl)
theorem zr_aloadn (X : Cx p s m args meth c cc nL own) {i : Fin 4} {x : Nat} (d : decode cc pc = .ok (.aload_n i, 1)) (h : lo[(i : Nat)]? = some (some (.ref x))) (k : Wx p l e R s m args below meth c D cs ids ad A H0 nL Q mc ms σ (pc + 1) lo (.ref x :: st)) : Wx p l e R s m args below meth c D cs ids ad A H0 nL Q mc ms σ pc lo st := fun H locs ls hP hS hl => lv_aload_n X.1 X.2.1 d rfl (hl.2.2 _ _ h) (k H locs ls hP hS hl)
theorem zr_lload (X : Cx p s m args meth c cc nL own) {i : Nat} {x : Int64} (d : decode cc pc = .ok (.lload i, 2)) (h : lo[i]? = some (some (.long x))) (k : Wx p l e R s m args below meth c D cs ids ad A H0 nL Q mc ms σ (pc + 2) lo (.long x :: st)) : Wx p l e R s m args below meth c D cs ids ad A H0 nL Q mc ms σ pc lo st := fun H locs ls hP hS hl => lv_lload X.1 X.2.1 d (hl.2.2 _ _ h) (k H locs ls hP hS hl)
theorem zr_lloadn (X : Cx p s m args meth c cc nL own) {i : Fin 4} {x : Int64} (d : decode cc pc = .ok (.lload_n i, 1)) (h : lo[(i : Nat)]? = some (some (.long x))) (k : Wx p l e R s m args below meth c D cs ids ad A H0 nL Q mc ms σ (pc + 1) lo (.long x :: st)) : Wx p l e R s m args below meth c D cs ids ad A H0 nL Q mc ms σ pc lo st := fun H locs ls hP hS hl => lv_lload_n X.1 X.2.1 d rfl (hl.2.2 _ _ h) (k H locs ls hP hS hl)
theorem zr_dload (X : Cx p s m args meth c cc nL own) {i : Nat} {x : UInt64} (d : decode cc pc = .ok (.dload i, 2)) (h : lo[i]? = some (some (.double x))) (k : Wx p l e R s m args below meth c D cs ids ad A H0 nL Q mc ms σ (pc + 2) lo (.double x :: st)) : Wx p l e R s m args below meth c D cs ids ad A H0 nL Q mc ms σ pc lo st := fun H locs ls hP hS hl => lv_dload X.1 X.2.1 d (hl.2.2 _ _ h) (k H locs ls hP hS hl)
theorem zr_dloadn (X : Cx p s m args meth c cc nL own) {i : Fin 4} {x : UInt64} (d : decode cc pc = .ok (.dload_n i, 1)) (h : lo[(i : Nat)]? = some (some (.double x))) (k : Wx p l e R s m args below meth c D cs ids ad A H0 nL Q mc ms σ (pc + 1) lo (.double x :: st)) : Wx p l e R s m args below meth c D cs ids ad A H0 nL Q mc ms σ pc lo st := fun H locs ls hP hS hl => lv_dload_n X.1 X.2.1 d rfl (hl.2.2 _ _ h) (k H locs ls hP hS hl)
theorem zr_istore (X : Cx p s m args meth c cc nL own) {i : Nat} {x : Int32} (d : decode cc pc = .ok (.istore i, 2)) (hn : i < nL) (hw : wideAt lo i = false) (k : Wx p l e R s m args below meth c D cs ids ad A H0 nL Q mc ms σ (pc + 2) (lo.set i (some (.int x))) st) : Wx p l e R s m args below meth c D cs ids ad A H0 nL Q mc ms σ pc lo (.int x :: st) := fun H locs ls hP hS hl => lv_istore X.1 X.2.1 d (lo_lv hl) hn rfl (fun ls' h' => k H locs ls' hP hS (lo_put1 hw h'))
theorem zr_istoren (X : Cx p s m args meth c cc nL own) {i : Fin 4} {x : Int32} (d : decode cc pc = .ok (.istore_n i, 1)) (hn : (i : Nat) < nL) (hw : wideAt lo i = false) (k : Wx p l e R s m args below meth c D cs ids ad A H0 nL Q mc ms σ (pc + 1) (lo.set i (some (.int x))) st) : Wx p l e R s m args below meth c D cs ids ad A H0 nL Q mc ms σ pc lo (.int x :: st) := fun H locs ls hP hS hl => lv_istore_n X.1 X.2.1 d rfl (lo_lv hl) hn rfl (fun ls' h' => k H locs ls' hP hS (lo_put1 hw h'))
theorem zr_astore (X : Cx p s m args meth c cc nL own) {i : Nat} {x : Nat} (d : decode cc pc = .ok (.astore i, 2)) (hn : i < nL) (hw : wideAt lo i = false) (k : Wx p l e R s m args below meth c D cs ids ad A H0 nL Q mc ms σ (pc + 2) (lo.set i (some (.ref x))) st) : Wx p l e R s m args below meth c D cs ids ad A H0 nL Q mc ms σ pc lo (.ref x :: st) := fun H locs ls hP hS hl => lv_astore X.1 X.2.1 d (lo_lv hl) hn rfl (fun ls' h' => k H locs ls' hP hS (lo_put1 hw h'))
theorem zr_astoren (X : Cx p s m args meth c cc nL own) {i : Fin 4} {x : Nat} (d : decode cc pc = .ok (.astore_n i, 1)) (hn : (i : Nat) < nL) (hw : wideAt lo i = false) (k : Wx p l e R s m args below meth c D cs ids ad A H0 nL Q mc ms σ (pc + 1) (lo.set i (some (.ref x))) st) : Wx p l e R s m args below meth c D cs ids ad A H0 nL Q mc ms σ pc lo (.ref x :: st) := fun H locs ls hP hS hl => lv_astore_n X.1 X.2.1 d rfl (lo_lv hl) hn rfl (fun ls' h' => k H locs ls' hP hS (lo_put1 hw h'))
theorem zr_lstore (X : Cx p s m args meth c cc nL own) {i : Nat} {x : Int64} (d : decode cc pc = .ok (.lstore i, 2)) (hn : i + 1 < nL) (hw : wideAt lo i = false) (k : Wx p l e R s m args below meth c D cs ids ad A H0 nL Q mc ms σ (pc + 2) ((lo.set i (some (.long x))).set (i + 1) none) st) : Wx p l e R s m args below meth c D cs ids ad A H0 nL Q mc ms σ pc lo (.long x :: st) := fun H locs ls hP hS hl => lv_lstore X.1 X.2.1 d (lo_lv hl) hn rfl (fun ls' h' => k H locs ls' hP hS (lo_put2 hw h'))
theorem zr_lstoren (X : Cx p s m args meth c cc nL own) {i : Fin 4} {x : Int64} (d : decode cc pc = .ok (.lstore_n i, 1)) (hn : (i : Nat) + 1 < nL) (hw : wideAt lo i = false) (k : Wx p l e R s m args below meth c D cs ids ad A H0 nL Q mc ms σ (pc + 1) ((lo.set i (some (.long x))).set (i + 1) none) st) : Wx p l e R s m args below meth c D cs ids ad A H0 nL Q mc ms σ pc lo (.long x :: st) := fun H locs ls hP hS hl => lv_lstore_n X.1 X.2.1 d rfl (lo_lv hl) hn rfl (fun ls' h' => k H locs ls' hP hS (lo_put2 hw h'))
theorem zr_dstore (X : Cx p s m args meth c cc nL own) {i : Nat} {x : UInt64} (d : decode cc pc = .ok (.dstore i, 2)) (hn : i + 1 < nL) (hw : wideAt lo i = false) (k : Wx p l e R s m args below meth c D cs ids ad A H0 nL Q mc ms σ (pc + 2) ((lo.set i (some (.double x))).set (i + 1) none) st) : Wx p l e R s m args below meth c D cs ids ad A H0 nL Q mc ms σ pc lo (.double x :: st) := fun H locs ls hP hS hl => lv_dstore X.1 X.2.1 d (lo_lv hl) hn rfl (fun ls' h' => k H locs ls' hP hS (lo_put2 hw h'))
theorem zr_dstoren (X : Cx p s m args meth c cc nL own) {i : Fin 4} {x : UInt64} (d : decode cc pc = .ok (.dstore_n i, 1)) (hn : (i : Nat) + 1 < nL) (hw : wideAt lo i = false) (k : Wx p l e R s m args below meth c D cs ids ad A H0 nL Q mc ms σ (pc + 1) ((lo.set i (some (.double x))).set (i + 1) none) st) : Wx p l e R s m args below meth c D cs ids ad A H0 nL Q mc ms σ pc lo (.double x :: st) := fun H locs ls hP hS hl => lv_dstore_n X.1 X.2.1 d rfl (lo_lv hl) hn rfl (fun ls' h' => k H locs ls' hP hS (lo_put2 hw h'))
theorem zr_iinc (X : Cx p s m args meth c cc nL own) {i : Nat} {n x : Int} (d : decode cc pc = .ok (.iinc i n, 3)) (h : lo[i]? = some (some (jI x))) (hn : i < nL) (hw : wideAt lo i = false) (k : Wx p l e R s m args below meth c D cs ids ad A H0 nL Q mc ms σ (pc + 3) (lo.set i (some (jI (x + n)))) st) : Wx p l e R s m args below meth c D cs ids ad A H0 nL Q mc ms σ pc lo st := fun H locs ls hP hS hl => by
  obtain ⟨j, hj⟩ := List.getElem?_of_mem (lo_l_mem.mpr h)
  exact lv_iinc X.1 X.2.1 d (lo_lv hl) hj (iI_add x n) hn rfl (fun ls' h' => k H locs ls' hP hS (lo_put1 hw h'))
-- stack
theorem zr_dup (X : Cx p s m args meth c cc nL own) {v : Value} (d : decode cc pc = .ok (.dup, 1)) (hv : v.category = 1) (k : Wx p l e R s m args below meth c D cs ids ad A H0 nL Q mc ms σ (pc + 1) lo (v :: v :: st)) : Wx p l e R s m args below meth c D cs ids ad A H0 nL Q mc ms σ pc lo (v :: st) := fun H locs ls hP hS hl => lv_dup X.1 X.2.1 d hv (k H locs ls hP hS hl)
theorem zr_dup2 (X : Cx p s m args meth c cc nL own) {v w : Value} (d : decode cc pc = .ok (.dup2, 1)) (hv : v.category = 1) (hw : w.category = 1) (k : Wx p l e R s m args below meth c D cs ids ad A H0 nL Q mc ms σ (pc + 1) lo (v :: w :: v :: w :: st)) : Wx p l e R s m args below meth c D cs ids ad A H0 nL Q mc ms σ pc lo (v :: w :: st) := fun H locs ls hP hS hl => lv_dup2_11 X.1 X.2.1 d hv hw (k H locs ls hP hS hl)
theorem zr_pop (X : Cx p s m args meth c cc nL own) {v : Value} (d : decode cc pc = .ok (.pop, 1)) (hv : v.category = 1) (k : Wx p l e R s m args below meth c D cs ids ad A H0 nL Q mc ms σ (pc + 1) lo st) : Wx p l e R s m args below meth c D cs ids ad A H0 nL Q mc ms σ pc lo (v :: st) := fun H locs ls hP hS hl => lv_pop X.1 X.2.1 d hv (k H locs ls hP hS hl)
theorem zr_goto (X : Cx p s m args meth c cc nL own) {off : Int} (tgt : Nat) (d : decode cc pc = .ok (.goto off, 3)) (ht : (pc : Int) + off = (tgt : Int)) (k : Wx p l e R s m args below meth c D cs ids ad A H0 nL Q mc ms σ tgt lo st) : Wx p l e R s m args below meth c D cs ids ad A H0 nL Q mc ms σ pc lo st := fun H locs ls hP hS hl => lv_goto X.1 X.2.1 d ht (k H locs ls hP hS hl)
-- arithmetic
theorem zr_iadd (X : Cx p s m args meth c cc nL own) {x y : Int} (d : decode cc pc = .ok (.iadd, 1)) (k : Wx p l e R s m args below meth c D cs ids ad A H0 nL Q mc ms σ (pc + 1) lo (jI (x + y) :: st)) : Wx p l e R s m args below meth c D cs ids ad A H0 nL Q mc ms σ pc lo (jI y :: jI x :: st) := fun H locs ls hP hS hl => lv_iadd X.1 X.2.1 d (by rw [iI_add]; exact k H locs ls hP hS hl)
theorem zr_isub (X : Cx p s m args meth c cc nL own) {x y : Int} (d : decode cc pc = .ok (.isub, 1)) (k : Wx p l e R s m args below meth c D cs ids ad A H0 nL Q mc ms σ (pc + 1) lo (jI (x - y) :: st)) : Wx p l e R s m args below meth c D cs ids ad A H0 nL Q mc ms σ pc lo (jI y :: jI x :: st) := fun H locs ls hP hS hl => lv_isub X.1 X.2.1 d (by rw [iI_sub]; exact k H locs ls hP hS hl)
theorem zr_imul (X : Cx p s m args meth c cc nL own) {x y : Int} (d : decode cc pc = .ok (.imul, 1)) (k : Wx p l e R s m args below meth c D cs ids ad A H0 nL Q mc ms σ (pc + 1) lo (jI (x * y) :: st)) : Wx p l e R s m args below meth c D cs ids ad A H0 nL Q mc ms σ pc lo (jI y :: jI x :: st) := fun H locs ls hP hS hl => lv_imul X.1 X.2.1 d (by rw [iI_mul]; exact k H locs ls hP hS hl)
theorem zr_ineg (X : Cx p s m args meth c cc nL own) {x : Int} (d : decode cc pc = .ok (.ineg, 1)) (k : Wx p l e R s m args below meth c D cs ids ad A H0 nL Q mc ms σ (pc + 1) lo (jI (-x) :: st)) : Wx p l e R s m args below meth c D cs ids ad A H0 nL Q mc ms σ pc lo (jI x :: st) := fun H locs ls hP hS hl => lv_ineg X.1 X.2.1 d (by rw [iI_neg]; exact k H locs ls hP hS hl)
theorem zr_ladd (X : Cx p s m args meth c cc nL own) {x y : Int} (d : decode cc pc = .ok (.ladd, 1)) (k : Wx p l e R s m args below meth c D cs ids ad A H0 nL Q mc ms σ (pc + 1) lo (.long (iL (x + y)) :: st)) : Wx p l e R s m args below meth c D cs ids ad A H0 nL Q mc ms σ pc lo (.long (iL y) :: .long (iL x) :: st) := fun H locs ls hP hS hl => lv_ladd X.1 X.2.1 d (by rw [iL_add]; exact k H locs ls hP hS hl)
theorem zr_lmul (X : Cx p s m args meth c cc nL own) {x y : Int} (d : decode cc pc = .ok (.lmul, 1)) (k : Wx p l e R s m args below meth c D cs ids ad A H0 nL Q mc ms σ (pc + 1) lo (.long (iL (x * y)) :: st)) : Wx p l e R s m args below meth c D cs ids ad A H0 nL Q mc ms σ pc lo (.long (iL y) :: .long (iL x) :: st) := fun H locs ls hP hS hl => lv_lmul X.1 X.2.1 d (by rw [iL_mul]; exact k H locs ls hP hS hl)
theorem iI_long {x : Int} (h : rg x) : (iI x).toInt64 = iL x := by
  rw [← Int64.toInt_inj, Int32.toInt_toInt64, iI_toInt h]
  obtain ⟨h1, h2⟩ := h
  exact (Int64.toInt_ofInt_of_le (by simp; omega) (by simp; omega)).symm
theorem zr_i2l (X : Cx p s m args meth c cc nL own) {x : Int} (d : decode cc pc = .ok (.i2l, 1)) (h : rg x) (k : Wx p l e R s m args below meth c D cs ids ad A H0 nL Q mc ms σ (pc + 1) lo (.long (iL x) :: st)) : Wx p l e R s m args below meth c D cs ids ad A H0 nL Q mc ms σ pc lo (jI x :: st) := fun H locs ls hP hS hl => lv_i2l X.1 X.2.1 d (iI_long h) (k H locs ls hP hS hl)
-- raw bits
theorem zr_iand (X : Cx p s m args meth c cc nL own) {x y z : Int32} (d : decode cc pc = .ok (.iand, 1)) (h : x &&& y = z) (k : Wx p l e R s m args below meth c D cs ids ad A H0 nL Q mc ms σ (pc + 1) lo (.int z :: st)) : Wx p l e R s m args below meth c D cs ids ad A H0 nL Q mc ms σ pc lo (.int y :: .int x :: st) := fun H locs ls hP hS hl => lv_iand X.1 X.2.1 d (by rw [h]; exact k H locs ls hP hS hl)
theorem zr_ior (X : Cx p s m args meth c cc nL own) {x y z : Int32} (d : decode cc pc = .ok (.ior, 1)) (h : x ||| y = z) (k : Wx p l e R s m args below meth c D cs ids ad A H0 nL Q mc ms σ (pc + 1) lo (.int z :: st)) : Wx p l e R s m args below meth c D cs ids ad A H0 nL Q mc ms σ pc lo (.int y :: .int x :: st) := fun H locs ls hP hS hl => lv_ior X.1 X.2.1 d (by rw [h]; exact k H locs ls hP hS hl)
theorem zr_ixor (X : Cx p s m args meth c cc nL own) {x y z : Int32} (d : decode cc pc = .ok (.ixor, 1)) (h : x ^^^ y = z) (k : Wx p l e R s m args below meth c D cs ids ad A H0 nL Q mc ms σ (pc + 1) lo (.int z :: st)) : Wx p l e R s m args below meth c D cs ids ad A H0 nL Q mc ms σ pc lo (.int y :: .int x :: st) := fun H locs ls hP hS hl => lv_ixor X.1 X.2.1 d (by rw [h]; exact k H locs ls hP hS hl)
theorem zr_ishl (X : Cx p s m args meth c cc nL own) {x y z : Int32} (d : decode cc pc = .ok (.ishl, 1)) (h : x <<< (y &&& 31) = z) (k : Wx p l e R s m args below meth c D cs ids ad A H0 nL Q mc ms σ (pc + 1) lo (.int z :: st)) : Wx p l e R s m args below meth c D cs ids ad A H0 nL Q mc ms σ pc lo (.int y :: .int x :: st) := fun H locs ls hP hS hl => lv_ishl X.1 X.2.1 d (by rw [h]; exact k H locs ls hP hS hl)
theorem zr_ishr (X : Cx p s m args meth c cc nL own) {x y z : Int32} (d : decode cc pc = .ok (.ishr, 1)) (h : x >>> (y &&& 31) = z) (k : Wx p l e R s m args below meth c D cs ids ad A H0 nL Q mc ms σ (pc + 1) lo (.int z :: st)) : Wx p l e R s m args below meth c D cs ids ad A H0 nL Q mc ms σ pc lo (.int y :: .int x :: st) := fun H locs ls hP hS hl => lv_ishr X.1 X.2.1 d (by rw [h]; exact k H locs ls hP hS hl)
theorem zr_idiv (X : Cx p s m args meth c cc nL own) {x y z : Int32} (d : decode cc pc = .ok (.idiv, 1)) (h0 : ¬ y = 0) (h : x / y = z) (k : Wx p l e R s m args below meth c D cs ids ad A H0 nL Q mc ms σ (pc + 1) lo (.int z :: st)) : Wx p l e R s m args below meth c D cs ids ad A H0 nL Q mc ms σ pc lo (.int y :: .int x :: st) := fun H locs ls hP hS hl => lv_idiv X.1 X.2.1 d h0 (by rw [h]; exact k H locs ls hP hS hl)
theorem zr_irem (X : Cx p s m args meth c cc nL own) {x y z : Int32} (d : decode cc pc = .ok (.irem, 1)) (h0 : ¬ y = 0) (h : x - x / y * y = z) (k : Wx p l e R s m args below meth c D cs ids ad A H0 nL Q mc ms σ (pc + 1) lo (.int z :: st)) : Wx p l e R s m args below meth c D cs ids ad A H0 nL Q mc ms σ pc lo (.int y :: .int x :: st) := fun H locs ls hP hS hl => lv_irem X.1 X.2.1 d h0 (by rw [h]; exact k H locs ls hP hS hl)
-- branches
theorem zr_icmp_lt (X : Cx p s m args meth c cc nL own) {off : Int} (tgt : Nat) {x y : Int} (d : decode cc pc = .ok (.if_icmp .lt off, 3)) (ht : (pc : Int) + off = (tgt : Int)) (hx : rg x) (hy : rg y) (kt : x < y → Wx p l e R s m args below meth c D cs ids ad A H0 nL Q mc ms σ tgt lo st) (kf : ¬ x < y → Wx p l e R s m args below meth c D cs ids ad A H0 nL Q mc ms σ (pc + 3) lo st) : Wx p l e R s m args below meth c D cs ids ad A H0 nL Q mc ms σ pc lo (jI y :: jI x :: st) := fun H locs ls hP hS hl => lv_icmp_lt X.1 X.2.1 d ht (fun h => kt ((iI_lt hx hy).mp h) H locs ls hP hS hl) (fun h => kf (fun h1 => h ((iI_lt hx hy).mpr h1)) H locs ls hP hS hl)
theorem zr_icmp_ge (X : Cx p s m args meth c cc nL own) {off : Int} (tgt : Nat) {x y : Int} (d : decode cc pc = .ok (.if_icmp .ge off, 3)) (ht : (pc : Int) + off = (tgt : Int)) (hx : rg x) (hy : rg y) (kt : y ≤ x → Wx p l e R s m args below meth c D cs ids ad A H0 nL Q mc ms σ tgt lo st) (kf : ¬ y ≤ x → Wx p l e R s m args below meth c D cs ids ad A H0 nL Q mc ms σ (pc + 3) lo st) : Wx p l e R s m args below meth c D cs ids ad A H0 nL Q mc ms σ pc lo (jI y :: jI x :: st) := fun H locs ls hP hS hl => lv_icmp_ge X.1 X.2.1 d ht (fun h => kt ((iI_le hy hx).mp h) H locs ls hP hS hl) (fun h => kf (fun h1 => h ((iI_le hy hx).mpr h1)) H locs ls hP hS hl)
theorem zr_icmp_gt (X : Cx p s m args meth c cc nL own) {off : Int} (tgt : Nat) {x y : Int} (d : decode cc pc = .ok (.if_icmp .gt off, 3)) (ht : (pc : Int) + off = (tgt : Int)) (hx : rg x) (hy : rg y) (kt : y < x → Wx p l e R s m args below meth c D cs ids ad A H0 nL Q mc ms σ tgt lo st) (kf : ¬ y < x → Wx p l e R s m args below meth c D cs ids ad A H0 nL Q mc ms σ (pc + 3) lo st) : Wx p l e R s m args below meth c D cs ids ad A H0 nL Q mc ms σ pc lo (jI y :: jI x :: st) := fun H locs ls hP hS hl => lv_icmp_gt X.1 X.2.1 d ht (fun h => kt ((iI_lt hy hx).mp h) H locs ls hP hS hl) (fun h => kf (fun h1 => h ((iI_lt hy hx).mpr h1)) H locs ls hP hS hl)
theorem zr_icmp_le (X : Cx p s m args meth c cc nL own) {off : Int} (tgt : Nat) {x y : Int} (d : decode cc pc = .ok (.if_icmp .le off, 3)) (ht : (pc : Int) + off = (tgt : Int)) (hx : rg x) (hy : rg y) (kt : x ≤ y → Wx p l e R s m args below meth c D cs ids ad A H0 nL Q mc ms σ tgt lo st) (kf : ¬ x ≤ y → Wx p l e R s m args below meth c D cs ids ad A H0 nL Q mc ms σ (pc + 3) lo st) : Wx p l e R s m args below meth c D cs ids ad A H0 nL Q mc ms σ pc lo (jI y :: jI x :: st) := fun H locs ls hP hS hl => lv_icmp_le X.1 X.2.1 d ht (fun h => kt ((iI_le hx hy).mp h) H locs ls hP hS hl) (fun h => kf (fun h1 => h ((iI_le hx hy).mpr h1)) H locs ls hP hS hl)
theorem zr_icmp_eq (X : Cx p s m args meth c cc nL own) {off : Int} (tgt : Nat) {x y : Int} (d : decode cc pc = .ok (.if_icmp .eq off, 3)) (ht : (pc : Int) + off = (tgt : Int)) (hx : rg x) (hy : rg y) (kt : x = y → Wx p l e R s m args below meth c D cs ids ad A H0 nL Q mc ms σ tgt lo st) (kf : ¬ x = y → Wx p l e R s m args below meth c D cs ids ad A H0 nL Q mc ms σ (pc + 3) lo st) : Wx p l e R s m args below meth c D cs ids ad A H0 nL Q mc ms σ pc lo (jI y :: jI x :: st) := fun H locs ls hP hS hl => lv_icmp_eq X.1 X.2.1 d ht (fun h => kt ((iI_eq hx hy).mp h) H locs ls hP hS hl) (fun h => kf (fun h1 => h ((iI_eq hx hy).mpr h1)) H locs ls hP hS hl)
theorem zr_icmp_ne (X : Cx p s m args meth c cc nL own) {off : Int} (tgt : Nat) {x y : Int} (d : decode cc pc = .ok (.if_icmp .ne off, 3)) (ht : (pc : Int) + off = (tgt : Int)) (hx : rg x) (hy : rg y) (kt : ¬ x = y → Wx p l e R s m args below meth c D cs ids ad A H0 nL Q mc ms σ tgt lo st) (kf : x = y → Wx p l e R s m args below meth c D cs ids ad A H0 nL Q mc ms σ (pc + 3) lo st) : Wx p l e R s m args below meth c D cs ids ad A H0 nL Q mc ms σ pc lo (jI y :: jI x :: st) := fun H locs ls hP hS hl => lv_icmp_ne X.1 X.2.1 d ht (fun h => kt (fun h1 => h ((iI_eq hx hy).mpr h1)) H locs ls hP hS hl) (fun h => kf ((iI_eq hx hy).mp h) H locs ls hP hS hl)
theorem rg0 : rg 0 := ⟨by omega, by omega⟩
theorem zr_if_lt (X : Cx p s m args meth c cc nL own) {off : Int} (tgt : Nat) {x : Int} (d : decode cc pc = .ok (.ifCond .lt off, 3)) (ht : (pc : Int) + off = (tgt : Int)) (hx : rg x) (kt : x < 0 → Wx p l e R s m args below meth c D cs ids ad A H0 nL Q mc ms σ tgt lo st) (kf : ¬ x < 0 → Wx p l e R s m args below meth c D cs ids ad A H0 nL Q mc ms σ (pc + 3) lo st) : Wx p l e R s m args below meth c D cs ids ad A H0 nL Q mc ms σ pc lo (jI x :: st) := fun H locs ls hP hS hl => lv_if_lt X.1 X.2.1 d ht (fun h => kt ((iI_lt hx rg0).mp h) H locs ls hP hS hl) (fun h => kf (fun h1 => h ((iI_lt hx rg0).mpr h1)) H locs ls hP hS hl)
theorem zr_if_ge (X : Cx p s m args meth c cc nL own) {off : Int} (tgt : Nat) {x : Int} (d : decode cc pc = .ok (.ifCond .ge off, 3)) (ht : (pc : Int) + off = (tgt : Int)) (hx : rg x) (kt : 0 ≤ x → Wx p l e R s m args below meth c D cs ids ad A H0 nL Q mc ms σ tgt lo st) (kf : ¬ 0 ≤ x → Wx p l e R s m args below meth c D cs ids ad A H0 nL Q mc ms σ (pc + 3) lo st) : Wx p l e R s m args below meth c D cs ids ad A H0 nL Q mc ms σ pc lo (jI x :: st) := fun H locs ls hP hS hl => lv_if_ge X.1 X.2.1 d ht (fun h => kt ((iI_le rg0 hx).mp h) H locs ls hP hS hl) (fun h => kf (fun h1 => h ((iI_le rg0 hx).mpr h1)) H locs ls hP hS hl)
theorem zr_if_gt (X : Cx p s m args meth c cc nL own) {off : Int} (tgt : Nat) {x : Int} (d : decode cc pc = .ok (.ifCond .gt off, 3)) (ht : (pc : Int) + off = (tgt : Int)) (hx : rg x) (kt : 0 < x → Wx p l e R s m args below meth c D cs ids ad A H0 nL Q mc ms σ tgt lo st) (kf : ¬ 0 < x → Wx p l e R s m args below meth c D cs ids ad A H0 nL Q mc ms σ (pc + 3) lo st) : Wx p l e R s m args below meth c D cs ids ad A H0 nL Q mc ms σ pc lo (jI x :: st) := fun H locs ls hP hS hl => lv_if_gt X.1 X.2.1 d ht (fun h => kt ((iI_lt rg0 hx).mp h) H locs ls hP hS hl) (fun h => kf (fun h1 => h ((iI_lt rg0 hx).mpr h1)) H locs ls hP hS hl)
theorem zr_if_le (X : Cx p s m args meth c cc nL own) {off : Int} (tgt : Nat) {x : Int} (d : decode cc pc = .ok (.ifCond .le off, 3)) (ht : (pc : Int) + off = (tgt : Int)) (hx : rg x) (kt : x ≤ 0 → Wx p l e R s m args below meth c D cs ids ad A H0 nL Q mc ms σ tgt lo st) (kf : ¬ x ≤ 0 → Wx p l e R s m args below meth c D cs ids ad A H0 nL Q mc ms σ (pc + 3) lo st) : Wx p l e R s m args below meth c D cs ids ad A H0 nL Q mc ms σ pc lo (jI x :: st) := fun H locs ls hP hS hl => lv_if_le X.1 X.2.1 d ht (fun h => kt ((iI_le hx rg0).mp h) H locs ls hP hS hl) (fun h => kf (fun h1 => h ((iI_le hx rg0).mpr h1)) H locs ls hP hS hl)
theorem zr_if_eq (X : Cx p s m args meth c cc nL own) {off : Int} (tgt : Nat) {x : Int} (d : decode cc pc = .ok (.ifCond .eq off, 3)) (ht : (pc : Int) + off = (tgt : Int)) (hx : rg x) (kt : x = 0 → Wx p l e R s m args below meth c D cs ids ad A H0 nL Q mc ms σ tgt lo st) (kf : ¬ x = 0 → Wx p l e R s m args below meth c D cs ids ad A H0 nL Q mc ms σ (pc + 3) lo st) : Wx p l e R s m args below meth c D cs ids ad A H0 nL Q mc ms σ pc lo (jI x :: st) := fun H locs ls hP hS hl => lv_if_eq X.1 X.2.1 d ht (fun h => kt ((iI_eq hx rg0).mp h) H locs ls hP hS hl) (fun h => kf (fun h1 => h ((iI_eq hx rg0).mpr h1)) H locs ls hP hS hl)
theorem zr_if_ne (X : Cx p s m args meth c cc nL own) {off : Int} (tgt : Nat) {x : Int} (d : decode cc pc = .ok (.ifCond .ne off, 3)) (ht : (pc : Int) + off = (tgt : Int)) (hx : rg x) (kt : ¬ x = 0 → Wx p l e R s m args below meth c D cs ids ad A H0 nL Q mc ms σ tgt lo st) (kf : x = 0 → Wx p l e R s m args below meth c D cs ids ad A H0 nL Q mc ms σ (pc + 3) lo st) : Wx p l e R s m args below meth c D cs ids ad A H0 nL Q mc ms σ pc lo (jI x :: st) := fun H locs ls hP hS hl => lv_if_ne X.1 X.2.1 d ht (fun h => kt (fun h1 => h ((iI_eq hx rg0).mpr h1)) H locs ls hP hS hl) (fun h => kf ((iI_eq hx rg0).mp h) H locs ls hP hS hl)
end ZR
end
section
theorem tp_0 : Cond.selects "FlowNetwork" ⟨"FlowNetwork", "requireArc", "(I)V"⟩ ⟨"FlowNetwork", "requireArc", "(I)V"⟩ ∈ TB := TB_mem (List.mem_of_getElem? (i := 0) (by decide +kernel)) rfl
theorem tp_1 : Cond.selects "java/lang/Throwable" ⟨"java/lang/Throwable", "fillInStackTrace", "(I)Ljava/lang/Throwable;"⟩ ⟨"java/lang/Throwable", "fillInStackTrace", "(I)Ljava/lang/Throwable;"⟩ ∈ TB := TB_mem (List.mem_of_getElem? (i := 1) (by decide +kernel)) rfl
theorem tp_2 : Cond.selects "FlowNetwork$MaximumFlow" ⟨"FlowNetwork$MaximumFlow", "changeCapacity", "(II)V"⟩ ⟨"FlowNetwork$MaximumFlow", "changeCapacity", "(II)V"⟩ ∈ TB := TB_mem (List.mem_of_getElem? (i := 2) (by decide +kernel)) rfl
theorem tp_3 : Cond.selects "FlowNetwork$MaximumFlow" ⟨"FlowNetwork$MaximumFlow", "moveAway", "(III)V"⟩ ⟨"FlowNetwork$MaximumFlow", "moveAway", "(III)V"⟩ ∈ TB := TB_mem (List.mem_of_getElem? (i := 3) (by decide +kernel)) rfl
theorem tp_4 : Cond.selects "FlowNetwork$Router" ⟨"FlowNetwork$Router", "route", "(III)I"⟩ ⟨"FlowNetwork$Router", "route", "(III)I"⟩ ∈ TB := TB_mem (List.mem_of_getElem? (i := 4) (by decide +kernel)) rfl
theorem tp_5 : Cond.selects "FlowNetwork$Router" ⟨"FlowNetwork$Router", "setHeights", "()V"⟩ ⟨"FlowNetwork$Router", "setHeights", "()V"⟩ ∈ TB := TB_mem (List.mem_of_getElem? (i := 5) (by decide +kernel)) rfl
theorem tp_6 : Cond.selects "FlowNetwork$Router" ⟨"FlowNetwork$Router", "findBehind", "(II)I"⟩ ⟨"FlowNetwork$Router", "findBehind", "(II)I"⟩ ∈ TB := TB_mem (List.mem_of_getElem? (i := 6) (by decide +kernel)) rfl
theorem tp_7 : Cond.selects "FlowNetwork$Network" ⟨"FlowNetwork$Network", "otherEnd", "(II)I"⟩ ⟨"FlowNetwork$Network", "otherEnd", "(II)I"⟩ ∈ TB := TB_mem (List.mem_of_getElem? (i := 7) (by decide +kernel)) rfl
theorem tp_8 : Cond.selects "FlowNetwork$Flow" ⟨"FlowNetwork$Flow", "room", "(II)I"⟩ ⟨"FlowNetwork$Flow", "room", "(II)I"⟩ ∈ TB := TB_mem (List.mem_of_getElem? (i := 8) (by decide +kernel)) rfl
theorem tp_9 : Cond.selects "FlowNetwork$Router" ⟨"FlowNetwork$Router", "sweepOnce", "()Z"⟩ ⟨"FlowNetwork$Router", "sweepOnce", "()Z"⟩ ∈ TB := TB_mem (List.mem_of_getElem? (i := 9) (by decide +kernel)) rfl
theorem tp_10 : Cond.selects "FlowNetwork$Router" ⟨"FlowNetwork$Router", "isActive", "(I)Z"⟩ ⟨"FlowNetwork$Router", "isActive", "(I)Z"⟩ ∈ TB := TB_mem (List.mem_of_getElem? (i := 10) (by decide +kernel)) rfl
theorem tp_11 : Cond.selects "FlowNetwork$Router" ⟨"FlowNetwork$Router", "pushOut", "(I)V"⟩ ⟨"FlowNetwork$Router", "pushOut", "(I)V"⟩ ∈ TB := TB_mem (List.mem_of_getElem? (i := 11) (by decide +kernel)) rfl
theorem tp_12 : Cond.selects "FlowNetwork$Flow" ⟨"FlowNetwork$Flow", "send", "(III)V"⟩ ⟨"FlowNetwork$Flow", "send", "(III)V"⟩ ∈ TB := TB_mem (List.mem_of_getElem? (i := 12) (by decide +kernel)) rfl
theorem tp_13 : Cond.selects "FlowNetwork$Router" ⟨"FlowNetwork$Router", "lift", "(I)V"⟩ ⟨"FlowNetwork$Router", "lift", "(I)V"⟩ ∈ TB := TB_mem (List.mem_of_getElem? (i := 13) (by decide +kernel)) rfl
theorem tp_14 : Cond.selects "FlowNetwork" ⟨"FlowNetwork", "requireNode", "(I)V"⟩ ⟨"FlowNetwork", "requireNode", "(I)V"⟩ ∈ TB := TB_mem (List.mem_of_getElem? (i := 14) (by decide +kernel)) rfl
theorem tp_15 : Cond.selects "FlowNetwork$MaximumFlow" ⟨"FlowNetwork$MaximumFlow", "chooseEnds", "(II)Z"⟩ ⟨"FlowNetwork$MaximumFlow", "chooseEnds", "(II)Z"⟩ ∈ TB := TB_mem (List.mem_of_getElem? (i := 15) (by decide +kernel)) rfl
theorem tp_16 : Cond.selects "FlowNetwork" ⟨"FlowNetwork", "requireEnds", "()V"⟩ ⟨"FlowNetwork", "requireEnds", "()V"⟩ ∈ TB := TB_mem (List.mem_of_getElem? (i := 16) (by decide +kernel)) rfl
theorem tp_17 : Cond.selects "FlowNetwork$MaximumFlow" ⟨"FlowNetwork$MaximumFlow", "hasEnds", "()Z"⟩ ⟨"FlowNetwork$MaximumFlow", "hasEnds", "()Z"⟩ ∈ TB := TB_mem (List.mem_of_getElem? (i := 17) (by decide +kernel)) rfl
theorem tp_18 : Cond.selects "FlowNetwork$MaximumFlow" ⟨"FlowNetwork$MaximumFlow", "greatestValue", "()I"⟩ ⟨"FlowNetwork$MaximumFlow", "greatestValue", "()I"⟩ ∈ TB := TB_mem (List.mem_of_getElem? (i := 18) (by decide +kernel)) rfl
theorem tp_19 : Cond.selects "FlowNetwork$MaximumFlow" ⟨"FlowNetwork$MaximumFlow", "settle", "()V"⟩ ⟨"FlowNetwork$MaximumFlow", "settle", "()V"⟩ ∈ TB := TB_mem (List.mem_of_getElem? (i := 19) (by decide +kernel)) rfl
theorem tp_20 : Cond.selects "FlowNetwork$MaximumFlow" ⟨"FlowNetwork$MaximumFlow", "copy", "(LFlowNetwork$MaximumFlow;)V"⟩ ⟨"FlowNetwork$MaximumFlow", "copy", "(LFlowNetwork$MaximumFlow;)V"⟩ ∈ TB := TB_mem (List.mem_of_getElem? (i := 20) (by decide +kernel)) rfl
theorem tp_21 : Cond.selects "FlowNetwork$Flow" ⟨"FlowNetwork$Flow", "copy", "(LFlowNetwork$Flow;)V"⟩ ⟨"FlowNetwork$Flow", "copy", "(LFlowNetwork$Flow;)V"⟩ ∈ TB := TB_mem (List.mem_of_getElem? (i := 21) (by decide +kernel)) rfl
theorem tp_22 : Cond.selects "FlowNetwork" ⟨"FlowNetwork", "movable", "(III)I"⟩ ⟨"FlowNetwork", "movable", "(III)I"⟩ ∈ TB := TB_mem (List.mem_of_getElem? (i := 22) (by decide +kernel)) rfl
theorem tp_23 : Cond.selects "FlowNetwork$Flow" ⟨"FlowNetwork$Flow", "block", "(I)V"⟩ ⟨"FlowNetwork$Flow", "block", "(I)V"⟩ ∈ TB := TB_mem (List.mem_of_getElem? (i := 23) (by decide +kernel)) rfl
theorem tp_24 : Cond.selects "FlowNetwork" ⟨"FlowNetwork", "isCut", "(I)Z"⟩ ⟨"FlowNetwork", "isCut", "(I)Z"⟩ ∈ TB := TB_mem (List.mem_of_getElem? (i := 24) (by decide +kernel)) rfl
theorem tp_25 : Cond.selects "FlowNetwork$Network" ⟨"FlowNetwork$Network", "allNodes", "()I"⟩ ⟨"FlowNetwork$Network", "allNodes", "()I"⟩ ∈ TB := TB_mem (List.mem_of_getElem? (i := 25) (by decide +kernel)) rfl
theorem tp_26 : Cond.selects "FlowNetwork$Flow" ⟨"FlowNetwork$Flow", "capacityOut", "(I)I"⟩ ⟨"FlowNetwork$Flow", "capacityOut", "(I)I"⟩ ∈ TB := TB_mem (List.mem_of_getElem? (i := 26) (by decide +kernel)) rfl
theorem tp_27 : Cond.selects "FlowNetwork$MaximumFlow" ⟨"FlowNetwork$MaximumFlow", "smallestMask", "()I"⟩ ⟨"FlowNetwork$MaximumFlow", "smallestMask", "()I"⟩ ∈ TB := TB_mem (List.mem_of_getElem? (i := 27) (by decide +kernel)) rfl
theorem tp_28 : Cond.selects "FlowNetwork$Flow" ⟨"FlowNetwork$Flow", "reachableFrom", "(I)I"⟩ ⟨"FlowNetwork$Flow", "reachableFrom", "(I)I"⟩ ∈ TB := TB_mem (List.mem_of_getElem? (i := 28) (by decide +kernel)) rfl
theorem tp_29 : Cond.selects "FlowNetwork$Flow" ⟨"FlowNetwork$Flow", "withNeighbours", "(I)I"⟩ ⟨"FlowNetwork$Flow", "withNeighbours", "(I)I"⟩ ∈ TB := TB_mem (List.mem_of_getElem? (i := 29) (by decide +kernel)) rfl
theorem tp_30 : Cond.selects "FlowNetwork$MaximumFlow" ⟨"FlowNetwork$MaximumFlow", "greatestMask", "()I"⟩ ⟨"FlowNetwork$MaximumFlow", "greatestMask", "()I"⟩ ∈ TB := TB_mem (List.mem_of_getElem? (i := 30) (by decide +kernel)) rfl
theorem tp_31 : Cond.selects "FlowNetwork$Network" ⟨"FlowNetwork$Network", "makeNode", "()I"⟩ ⟨"FlowNetwork$Network", "makeNode", "()I"⟩ ∈ TB := TB_mem (List.mem_of_getElem? (i := 31) (by decide +kernel)) rfl
theorem tp_32 : Cond.selects "FlowNetwork$Network" ⟨"FlowNetwork$Network", "makeArc", "(II)I"⟩ ⟨"FlowNetwork$Network", "makeArc", "(II)I"⟩ ∈ TB := TB_mem (List.mem_of_getElem? (i := 32) (by decide +kernel)) rfl
theorem tp_33 : Cond.selects "FlowNetwork$Network" ⟨"FlowNetwork$Network", "attach", "(II)V"⟩ ⟨"FlowNetwork$Network", "attach", "(II)V"⟩ ∈ TB := TB_mem (List.mem_of_getElem? (i := 33) (by decide +kernel)) rfl
theorem tw_0 : (Jvm.Cond.initialized "FlowNetworkLaw") ∈ TB := TB_mem (List.mem_of_getElem? (i := 34) (by decide +kernel)) rfl
theorem tw_1 : (Jvm.Cond.initialized "FlowNetwork") ∈ TB := TB_mem (List.mem_of_getElem? (i := 35) (by decide +kernel)) rfl
theorem tw_2 : (Jvm.Cond.initialized "FlowNetwork$Network") ∈ TB := TB_mem (List.mem_of_getElem? (i := 36) (by decide +kernel)) rfl
theorem tw_3 : (Jvm.Cond.initialized "FlowNetwork$MaximumFlow") ∈ TB := TB_mem (List.mem_of_getElem? (i := 37) (by decide +kernel)) rfl
theorem tw_4 : (Jvm.Cond.initialized "FlowNetwork$Flow") ∈ TB := TB_mem (List.mem_of_getElem? (i := 38) (by decide +kernel)) rfl
theorem tw_5 : (Jvm.Cond.initialized "FlowNetwork$Router") ∈ TB := TB_mem (List.mem_of_getElem? (i := 39) (by decide +kernel)) rfl
theorem tw_6 : (Jvm.Cond.initialized "FlowNetwork$Levels") ∈ TB := TB_mem (List.mem_of_getElem? (i := 40) (by decide +kernel)) rfl
theorem tw_7 : (Jvm.Cond.initialized "FlowNetwork$Cuts") ∈ TB := TB_mem (List.mem_of_getElem? (i := 41) (by decide +kernel)) rfl
theorem tw_8 : (Jvm.Cond.initialized "java/lang/Throwable") ∈ TB := TB_mem (List.mem_of_getElem? (i := 42) (by decide +kernel)) rfl
theorem tw_9 : (Jvm.Cond.initialized "java/lang/Exception") ∈ TB := TB_mem (List.mem_of_getElem? (i := 43) (by decide +kernel)) rfl
theorem tw_10 : (Jvm.Cond.initialized "java/lang/RuntimeException") ∈ TB := TB_mem (List.mem_of_getElem? (i := 44) (by decide +kernel)) rfl
theorem tw_11 : (Jvm.Cond.initialized "java/lang/IllegalStateException") ∈ TB := TB_mem (List.mem_of_getElem? (i := 45) (by decide +kernel)) rfl
theorem tw_12 : (Jvm.Cond.initialized "java/lang/IndexOutOfBoundsException") ∈ TB := TB_mem (List.mem_of_getElem? (i := 46) (by decide +kernel)) rfl
theorem tw_13 : (Jvm.Cond.initialized "java/lang/IllegalArgumentException") ∈ TB := TB_mem (List.mem_of_getElem? (i := 47) (by decide +kernel)) rfl
theorem tw_14 : (Jvm.Cond.initialized "java/util/Arrays") ∈ TB := TB_mem (List.mem_of_getElem? (i := 48) (by decide +kernel)) rfl
theorem tw_15 : (Jvm.Cond.initialized "java/lang/Math") ∈ TB := TB_mem (List.mem_of_getElem? (i := 49) (by decide +kernel)) rfl
theorem tw_16 : (Jvm.Cond.initialized "java/lang/System") ∈ TB := TB_mem (List.mem_of_getElem? (i := 50) (by decide +kernel)) rfl
theorem tw_17 : (Jvm.Cond.classLink "FlowNetworkLaw" (10 : Nat) "FlowNetwork") ∈ TB := TB_mem (List.mem_of_getElem? (i := 51) (by decide +kernel)) rfl
theorem tw_18 : (Jvm.Cond.instantiable "FlowNetwork" (5 : Nat)) ∈ TB := TB_mem (List.mem_of_getElem? (i := 52) (by decide +kernel)) rfl
theorem tw_19 : (Jvm.Cond.methodLink "FlowNetworkLaw" (44 : Nat) ({ cls := "FlowNetwork", name := "<init>", desc := "()V" } : Jvm.MethodName)) ∈ TB := TB_mem (List.mem_of_getElem? (i := 53) (by decide +kernel)) rfl
theorem tw_20 : (Jvm.Cond.instanceMethod ({ cls := "FlowNetwork", name := "<init>", desc := "()V" } : Jvm.MethodName)) ∈ TB := TB_mem (List.mem_of_getElem? (i := 54) (by decide +kernel)) rfl
theorem tw_21 : (Jvm.Cond.code ({ cls := "FlowNetwork", name := "<init>", desc := "()V" } : Jvm.MethodName) prog_1_method_1_code (2 : Nat) (Option.none : Option Jvm.ClassFile.FieldType)) ∈ TB := TB_mem (List.mem_of_getElem? (i := 55) (by decide +kernel)) rfl
theorem tw_22 : (Jvm.Cond.methodLink "FlowNetwork" (1 : Nat) ({ cls := "java/lang/Object", name := "<init>", desc := "()V" } : Jvm.MethodName)) ∈ TB := TB_mem (List.mem_of_getElem? (i := 56) (by decide +kernel)) rfl
theorem tw_23 : (Jvm.Cond.instanceMethod ({ cls := "java/lang/Object", name := "<init>", desc := "()V" } : Jvm.MethodName)) ∈ TB := TB_mem (List.mem_of_getElem? (i := 57) (by decide +kernel)) rfl
theorem tw_24 : (Jvm.Cond.code ({ cls := "java/lang/Object", name := "<init>", desc := "()V" } : Jvm.MethodName) object_method_1_code (1 : Nat) (Option.none : Option Jvm.ClassFile.FieldType)) ∈ TB := TB_mem (List.mem_of_getElem? (i := 58) (by decide +kernel)) rfl
theorem tw_25 : (Jvm.Cond.classLink "FlowNetwork" (7 : Nat) "FlowNetwork$Network") ∈ TB := TB_mem (List.mem_of_getElem? (i := 59) (by decide +kernel)) rfl
theorem tw_26 : (Jvm.Cond.instantiable "FlowNetwork$Network" (6 : Nat)) ∈ TB := TB_mem (List.mem_of_getElem? (i := 60) (by decide +kernel)) rfl
theorem tn_27 : (Jvm.Cond.methodLinkNest "FlowNetwork" (9 : Nat) ({ cls := "FlowNetwork$Network", name := "<init>", desc := "()V" } : Jvm.MethodName) "FlowNetwork") ∈ NW := NW_mem (List.mem_of_getElem? (i := 61) (by decide +kernel)) rfl
theorem tw_28 : (Jvm.Cond.instanceMethod ({ cls := "FlowNetwork$Network", name := "<init>", desc := "()V" } : Jvm.MethodName)) ∈ TB := TB_mem (List.mem_of_getElem? (i := 62) (by decide +kernel)) rfl
theorem tw_29 : (Jvm.Cond.code ({ cls := "FlowNetwork$Network", name := "<init>", desc := "()V" } : Jvm.MethodName) prog_6_method_1_code (1 : Nat) (Option.none : Option Jvm.ClassFile.FieldType)) ∈ TB := TB_mem (List.mem_of_getElem? (i := 63) (by decide +kernel)) rfl
theorem tw_30 : (Jvm.Cond.methodLink "FlowNetwork$Network" (3 : Nat) ({ cls := "java/lang/Object", name := "<init>", desc := "()V" } : Jvm.MethodName)) ∈ TB := TB_mem (List.mem_of_getElem? (i := 64) (by decide +kernel)) rfl
theorem tw_31 : (Jvm.Cond.classLink "FlowNetwork$Network" (21 : Nat) "[[I") ∈ TB := TB_mem (List.mem_of_getElem? (i := 65) (by decide +kernel)) rfl
theorem tw_33 : (Jvm.Cond.fieldLink "FlowNetwork$Network" (26 : Nat) "FlowNetwork$Network" "nodes" "I") ∈ TB := TB_mem (List.mem_of_getElem? (i := 67) (by decide +kernel)) rfl
theorem tn_34 : (Jvm.Cond.fieldLinkNest "FlowNetwork" (42 : Nat) "FlowNetwork$Network" "nodes" "I" "FlowNetwork") ∈ NW := NW_mem (List.mem_of_getElem? (i := 68) (by decide +kernel)) rfl
theorem tn_35 : (Jvm.Cond.fieldLinkNest "FlowNetwork$Router" (50 : Nat) "FlowNetwork$Network" "nodes" "I" "FlowNetwork") ∈ NW := NW_mem (List.mem_of_getElem? (i := 69) (by decide +kernel)) rfl
theorem tn_36 : (Jvm.Cond.fieldLinkNest "FlowNetwork$Flow" (33 : Nat) "FlowNetwork$Network" "nodes" "I" "FlowNetwork") ∈ NW := NW_mem (List.mem_of_getElem? (i := 70) (by decide +kernel)) rfl
theorem tn_37 : (Jvm.Cond.fieldLinkNest "FlowNetwork$MaximumFlow" (88 : Nat) "FlowNetwork$Network" "nodes" "I" "FlowNetwork") ∈ NW := NW_mem (List.mem_of_getElem? (i := 71) (by decide +kernel)) rfl
theorem tw_38 : (Jvm.Cond.fieldLink "FlowNetwork$Network" (30 : Nat) "FlowNetwork$Network" "arcs" "I") ∈ TB := TB_mem (List.mem_of_getElem? (i := 72) (by decide +kernel)) rfl
theorem tn_39 : (Jvm.Cond.fieldLinkNest "FlowNetwork" (68 : Nat) "FlowNetwork$Network" "arcs" "I" "FlowNetwork") ∈ NW := NW_mem (List.mem_of_getElem? (i := 73) (by decide +kernel)) rfl
theorem tn_40 : (Jvm.Cond.fieldLinkNest "FlowNetwork$Flow" (41 : Nat) "FlowNetwork$Network" "arcs" "I" "FlowNetwork") ∈ NW := NW_mem (List.mem_of_getElem? (i := 74) (by decide +kernel)) rfl
theorem tn_41 : (Jvm.Cond.fieldLinkNest "FlowNetwork$MaximumFlow" (81 : Nat) "FlowNetwork$Network" "arcs" "I" "FlowNetwork") ∈ NW := NW_mem (List.mem_of_getElem? (i := 75) (by decide +kernel)) rfl
theorem tw_42 : (Jvm.Cond.fieldLink "FlowNetwork$Network" (9 : Nat) "FlowNetwork$Network" "tail" "[I") ∈ TB := TB_mem (List.mem_of_getElem? (i := 76) (by decide +kernel)) rfl
theorem tn_43 : (Jvm.Cond.fieldLinkNest "FlowNetwork$Flow" (28 : Nat) "FlowNetwork$Network" "tail" "[I" "FlowNetwork") ∈ NW := NW_mem (List.mem_of_getElem? (i := 77) (by decide +kernel)) rfl
theorem tn_44 : (Jvm.Cond.fieldLinkNest "FlowNetwork" (101 : Nat) "FlowNetwork$Network" "tail" "[I" "FlowNetwork") ∈ NW := NW_mem (List.mem_of_getElem? (i := 78) (by decide +kernel)) rfl
theorem tn_45 : (Jvm.Cond.fieldLinkNest "FlowNetwork$MaximumFlow" (61 : Nat) "FlowNetwork$Network" "tail" "[I" "FlowNetwork") ∈ NW := NW_mem (List.mem_of_getElem? (i := 79) (by decide +kernel)) rfl
theorem tw_46 : (Jvm.Cond.fieldLink "FlowNetwork$Network" (15 : Nat) "FlowNetwork$Network" "head" "[I") ∈ TB := TB_mem (List.mem_of_getElem? (i := 80) (by decide +kernel)) rfl
theorem tn_47 : (Jvm.Cond.fieldLinkNest "FlowNetwork$MaximumFlow" (66 : Nat) "FlowNetwork$Network" "head" "[I" "FlowNetwork") ∈ NW := NW_mem (List.mem_of_getElem? (i := 81) (by decide +kernel)) rfl
theorem tn_48 : (Jvm.Cond.fieldLinkNest "FlowNetwork$Flow" (44 : Nat) "FlowNetwork$Network" "head" "[I" "FlowNetwork") ∈ NW := NW_mem (List.mem_of_getElem? (i := 82) (by decide +kernel)) rfl
theorem tn_49 : (Jvm.Cond.fieldLinkNest "FlowNetwork" (118 : Nat) "FlowNetwork$Network" "head" "[I" "FlowNetwork") ∈ NW := NW_mem (List.mem_of_getElem? (i := 83) (by decide +kernel)) rfl
theorem tw_50 : (Jvm.Cond.fieldLink "FlowNetwork$Network" (18 : Nat) "FlowNetwork$Network" "degree" "[I") ∈ TB := TB_mem (List.mem_of_getElem? (i := 84) (by decide +kernel)) rfl
theorem tn_51 : (Jvm.Cond.fieldLinkNest "FlowNetwork$Router" (59 : Nat) "FlowNetwork$Network" "degree" "[I" "FlowNetwork") ∈ NW := NW_mem (List.mem_of_getElem? (i := 85) (by decide +kernel)) rfl
theorem tw_52 : (Jvm.Cond.fieldLink "FlowNetwork$Network" (23 : Nat) "FlowNetwork$Network" "arcsAt" "[[I") ∈ TB := TB_mem (List.mem_of_getElem? (i := 86) (by decide +kernel)) rfl
theorem tn_53 : (Jvm.Cond.fieldLinkNest "FlowNetwork$Router" (62 : Nat) "FlowNetwork$Network" "arcsAt" "[[I" "FlowNetwork") ∈ NW := NW_mem (List.mem_of_getElem? (i := 87) (by decide +kernel)) rfl
theorem tw_54 : (Jvm.Cond.lays "FlowNetwork$Network" "FlowNetwork$Network" "nodes" "I") ∈ TB := TB_mem (List.mem_of_getElem? (i := 88) (by decide +kernel)) rfl
theorem tw_55 : (Jvm.Cond.soleField "FlowNetwork$Network" "nodes") ∈ TB := TB_mem (List.mem_of_getElem? (i := 89) (by decide +kernel)) rfl
theorem tw_56 : (Jvm.Cond.lays "FlowNetwork$Network" "FlowNetwork$Network" "arcs" "I") ∈ TB := TB_mem (List.mem_of_getElem? (i := 90) (by decide +kernel)) rfl
theorem tw_57 : (Jvm.Cond.soleField "FlowNetwork$Network" "arcs") ∈ TB := TB_mem (List.mem_of_getElem? (i := 91) (by decide +kernel)) rfl
theorem tw_58 : (Jvm.Cond.laysFinal "FlowNetwork$Network" "FlowNetwork$Network" "tail" "[I") ∈ TB := TB_mem (List.mem_of_getElem? (i := 92) (by decide +kernel)) rfl
theorem tw_59 : (Jvm.Cond.soleField "FlowNetwork$Network" "tail") ∈ TB := TB_mem (List.mem_of_getElem? (i := 93) (by decide +kernel)) rfl
theorem tw_60 : (Jvm.Cond.laysFinal "FlowNetwork$Network" "FlowNetwork$Network" "head" "[I") ∈ TB := TB_mem (List.mem_of_getElem? (i := 94) (by decide +kernel)) rfl
theorem tw_61 : (Jvm.Cond.soleField "FlowNetwork$Network" "head") ∈ TB := TB_mem (List.mem_of_getElem? (i := 95) (by decide +kernel)) rfl
theorem tw_62 : (Jvm.Cond.laysFinal "FlowNetwork$Network" "FlowNetwork$Network" "degree" "[I") ∈ TB := TB_mem (List.mem_of_getElem? (i := 96) (by decide +kernel)) rfl
theorem tw_63 : (Jvm.Cond.soleField "FlowNetwork$Network" "degree") ∈ TB := TB_mem (List.mem_of_getElem? (i := 97) (by decide +kernel)) rfl
theorem tw_64 : (Jvm.Cond.laysFinal "FlowNetwork$Network" "FlowNetwork$Network" "arcsAt" "[[I") ∈ TB := TB_mem (List.mem_of_getElem? (i := 98) (by decide +kernel)) rfl
theorem tw_65 : (Jvm.Cond.soleField "FlowNetwork$Network" "arcsAt") ∈ TB := TB_mem (List.mem_of_getElem? (i := 99) (by decide +kernel)) rfl
theorem tw_66 : (Jvm.Cond.superclass "FlowNetwork$Network" "java/lang/Object") ∈ TB := TB_mem (List.mem_of_getElem? (i := 100) (by decide +kernel)) rfl
theorem tw_67 : (Jvm.Cond.arrayClass Jvm.ClassFile.FieldType.int) ∈ TB := TB_mem (List.mem_of_getElem? (i := 101) (by decide +kernel)) rfl
theorem tw_68 : (Jvm.Cond.classLink "FlowNetwork" (16 : Nat) "FlowNetwork$MaximumFlow") ∈ TB := TB_mem (List.mem_of_getElem? (i := 102) (by decide +kernel)) rfl
theorem tw_69 : (Jvm.Cond.instantiable "FlowNetwork$MaximumFlow" (6 : Nat)) ∈ TB := TB_mem (List.mem_of_getElem? (i := 103) (by decide +kernel)) rfl
theorem tn_70 : (Jvm.Cond.methodLinkNest "FlowNetwork" (18 : Nat) ({ cls := "FlowNetwork$MaximumFlow", name := "<init>", desc := "(LFlowNetwork$Network;)V" } : Jvm.MethodName) "FlowNetwork") ∈ NW := NW_mem (List.mem_of_getElem? (i := 104) (by decide +kernel)) rfl
theorem tw_71 : (Jvm.Cond.instanceMethod ({ cls := "FlowNetwork$MaximumFlow", name := "<init>", desc := "(LFlowNetwork$Network;)V" } : Jvm.MethodName)) ∈ TB := TB_mem (List.mem_of_getElem? (i := 105) (by decide +kernel)) rfl
theorem tw_72 : (Jvm.Cond.code ({ cls := "FlowNetwork$MaximumFlow", name := "<init>", desc := "(LFlowNetwork$Network;)V" } : Jvm.MethodName) prog_5_method_1_code (3 : Nat) (Option.none : Option Jvm.ClassFile.FieldType)) ∈ TB := TB_mem (List.mem_of_getElem? (i := 106) (by decide +kernel)) rfl
theorem tw_73 : (Jvm.Cond.methodLink "FlowNetwork$MaximumFlow" (3 : Nat) ({ cls := "java/lang/Object", name := "<init>", desc := "()V" } : Jvm.MethodName)) ∈ TB := TB_mem (List.mem_of_getElem? (i := 107) (by decide +kernel)) rfl
theorem tw_74 : (Jvm.Cond.classLink "FlowNetwork$MaximumFlow" (18 : Nat) "FlowNetwork$Flow") ∈ TB := TB_mem (List.mem_of_getElem? (i := 108) (by decide +kernel)) rfl
theorem tw_75 : (Jvm.Cond.instantiable "FlowNetwork$Flow" (3 : Nat)) ∈ TB := TB_mem (List.mem_of_getElem? (i := 109) (by decide +kernel)) rfl
theorem tn_76 : (Jvm.Cond.methodLinkNest "FlowNetwork$MaximumFlow" (20 : Nat) ({ cls := "FlowNetwork$Flow", name := "<init>", desc := "(LFlowNetwork$Network;)V" } : Jvm.MethodName) "FlowNetwork") ∈ NW := NW_mem (List.mem_of_getElem? (i := 110) (by decide +kernel)) rfl
theorem tw_77 : (Jvm.Cond.instanceMethod ({ cls := "FlowNetwork$Flow", name := "<init>", desc := "(LFlowNetwork$Network;)V" } : Jvm.MethodName)) ∈ TB := TB_mem (List.mem_of_getElem? (i := 111) (by decide +kernel)) rfl
theorem tw_78 : (Jvm.Cond.code ({ cls := "FlowNetwork$Flow", name := "<init>", desc := "(LFlowNetwork$Network;)V" } : Jvm.MethodName) prog_3_method_1_code (2 : Nat) (Option.none : Option Jvm.ClassFile.FieldType)) ∈ TB := TB_mem (List.mem_of_getElem? (i := 112) (by decide +kernel)) rfl
theorem tw_79 : (Jvm.Cond.methodLink "FlowNetwork$Flow" (3 : Nat) ({ cls := "java/lang/Object", name := "<init>", desc := "()V" } : Jvm.MethodName)) ∈ TB := TB_mem (List.mem_of_getElem? (i := 113) (by decide +kernel)) rfl
theorem tw_80 : (Jvm.Cond.fieldLink "FlowNetwork$Flow" (18 : Nat) "FlowNetwork$Flow" "network" "LFlowNetwork$Network;") ∈ TB := TB_mem (List.mem_of_getElem? (i := 114) (by decide +kernel)) rfl
theorem tw_81 : (Jvm.Cond.fieldLink "FlowNetwork$Flow" (9 : Nat) "FlowNetwork$Flow" "capacity" "[I") ∈ TB := TB_mem (List.mem_of_getElem? (i := 115) (by decide +kernel)) rfl
theorem tn_82 : (Jvm.Cond.fieldLinkNest "FlowNetwork" (87 : Nat) "FlowNetwork$Flow" "capacity" "[I" "FlowNetwork") ∈ NW := NW_mem (List.mem_of_getElem? (i := 116) (by decide +kernel)) rfl
theorem tn_83 : (Jvm.Cond.fieldLinkNest "FlowNetwork$MaximumFlow" (58 : Nat) "FlowNetwork$Flow" "capacity" "[I" "FlowNetwork") ∈ NW := NW_mem (List.mem_of_getElem? (i := 117) (by decide +kernel)) rfl
theorem tw_84 : (Jvm.Cond.fieldLink "FlowNetwork$Flow" (15 : Nat) "FlowNetwork$Flow" "amount" "[I") ∈ TB := TB_mem (List.mem_of_getElem? (i := 118) (by decide +kernel)) rfl
theorem tn_85 : (Jvm.Cond.fieldLinkNest "FlowNetwork$MaximumFlow" (48 : Nat) "FlowNetwork$Flow" "amount" "[I" "FlowNetwork") ∈ NW := NW_mem (List.mem_of_getElem? (i := 119) (by decide +kernel)) rfl
theorem tn_86 : (Jvm.Cond.fieldLinkNest "FlowNetwork" (131 : Nat) "FlowNetwork$Flow" "amount" "[I" "FlowNetwork") ∈ NW := NW_mem (List.mem_of_getElem? (i := 120) (by decide +kernel)) rfl
theorem tw_87 : (Jvm.Cond.laysFinal "FlowNetwork$Flow" "FlowNetwork$Flow" "network" "LFlowNetwork$Network;") ∈ TB := TB_mem (List.mem_of_getElem? (i := 121) (by decide +kernel)) rfl
theorem tw_88 : (Jvm.Cond.soleField "FlowNetwork$Flow" "network") ∈ TB := TB_mem (List.mem_of_getElem? (i := 122) (by decide +kernel)) rfl
theorem tw_89 : (Jvm.Cond.laysFinal "FlowNetwork$Flow" "FlowNetwork$Flow" "capacity" "[I") ∈ TB := TB_mem (List.mem_of_getElem? (i := 123) (by decide +kernel)) rfl
theorem tw_90 : (Jvm.Cond.soleField "FlowNetwork$Flow" "capacity") ∈ TB := TB_mem (List.mem_of_getElem? (i := 124) (by decide +kernel)) rfl
theorem tw_91 : (Jvm.Cond.laysFinal "FlowNetwork$Flow" "FlowNetwork$Flow" "amount" "[I") ∈ TB := TB_mem (List.mem_of_getElem? (i := 125) (by decide +kernel)) rfl
theorem tw_92 : (Jvm.Cond.soleField "FlowNetwork$Flow" "amount") ∈ TB := TB_mem (List.mem_of_getElem? (i := 126) (by decide +kernel)) rfl
theorem tw_93 : (Jvm.Cond.superclass "FlowNetwork$Flow" "java/lang/Object") ∈ TB := TB_mem (List.mem_of_getElem? (i := 127) (by decide +kernel)) rfl
theorem tw_94 : (Jvm.Cond.classLink "FlowNetwork$MaximumFlow" (31 : Nat) "FlowNetwork$Router") ∈ TB := TB_mem (List.mem_of_getElem? (i := 128) (by decide +kernel)) rfl
theorem tw_95 : (Jvm.Cond.instantiable "FlowNetwork$Router" (7 : Nat)) ∈ TB := TB_mem (List.mem_of_getElem? (i := 129) (by decide +kernel)) rfl
theorem tn_96 : (Jvm.Cond.methodLinkNest "FlowNetwork$MaximumFlow" (33 : Nat) ({ cls := "FlowNetwork$Router", name := "<init>", desc := "(LFlowNetwork$Network;LFlowNetwork$Flow;)V" } : Jvm.MethodName) "FlowNetwork") ∈ NW := NW_mem (List.mem_of_getElem? (i := 130) (by decide +kernel)) rfl
theorem tw_97 : (Jvm.Cond.instanceMethod ({ cls := "FlowNetwork$Router", name := "<init>", desc := "(LFlowNetwork$Network;LFlowNetwork$Flow;)V" } : Jvm.MethodName)) ∈ TB := TB_mem (List.mem_of_getElem? (i := 131) (by decide +kernel)) rfl
theorem tw_98 : (Jvm.Cond.code ({ cls := "FlowNetwork$Router", name := "<init>", desc := "(LFlowNetwork$Network;LFlowNetwork$Flow;)V" } : Jvm.MethodName) prog_7_method_1_code (3 : Nat) (Option.none : Option Jvm.ClassFile.FieldType)) ∈ TB := TB_mem (List.mem_of_getElem? (i := 132) (by decide +kernel)) rfl
theorem tw_99 : (Jvm.Cond.methodLink "FlowNetwork$Router" (3 : Nat) ({ cls := "java/lang/Object", name := "<init>", desc := "()V" } : Jvm.MethodName)) ∈ TB := TB_mem (List.mem_of_getElem? (i := 133) (by decide +kernel)) rfl
theorem tw_100 : (Jvm.Cond.fieldLink "FlowNetwork$Router" (21 : Nat) "FlowNetwork$Router" "network" "LFlowNetwork$Network;") ∈ TB := TB_mem (List.mem_of_getElem? (i := 134) (by decide +kernel)) rfl
theorem tw_101 : (Jvm.Cond.fieldLink "FlowNetwork$Router" (25 : Nat) "FlowNetwork$Router" "flow" "LFlowNetwork$Flow;") ∈ TB := TB_mem (List.mem_of_getElem? (i := 135) (by decide +kernel)) rfl
theorem tw_102 : (Jvm.Cond.fieldLink "FlowNetwork$Router" (9 : Nat) "FlowNetwork$Router" "excess" "[I") ∈ TB := TB_mem (List.mem_of_getElem? (i := 136) (by decide +kernel)) rfl
theorem tw_103 : (Jvm.Cond.fieldLink "FlowNetwork$Router" (15 : Nat) "FlowNetwork$Router" "height" "[I") ∈ TB := TB_mem (List.mem_of_getElem? (i := 137) (by decide +kernel)) rfl
theorem tw_104 : (Jvm.Cond.fieldLink "FlowNetwork$Router" (18 : Nat) "FlowNetwork$Router" "queue" "[I") ∈ TB := TB_mem (List.mem_of_getElem? (i := 138) (by decide +kernel)) rfl
theorem tw_105 : (Jvm.Cond.fieldLink "FlowNetwork$Router" (29 : Nat) "FlowNetwork$Router" "start" "I") ∈ TB := TB_mem (List.mem_of_getElem? (i := 139) (by decide +kernel)) rfl
theorem tw_106 : (Jvm.Cond.fieldLink "FlowNetwork$Router" (33 : Nat) "FlowNetwork$Router" "goal" "I") ∈ TB := TB_mem (List.mem_of_getElem? (i := 140) (by decide +kernel)) rfl
theorem tw_107 : (Jvm.Cond.laysFinal "FlowNetwork$Router" "FlowNetwork$Router" "network" "LFlowNetwork$Network;") ∈ TB := TB_mem (List.mem_of_getElem? (i := 141) (by decide +kernel)) rfl
theorem tw_108 : (Jvm.Cond.soleField "FlowNetwork$Router" "network") ∈ TB := TB_mem (List.mem_of_getElem? (i := 142) (by decide +kernel)) rfl
theorem tw_109 : (Jvm.Cond.laysFinal "FlowNetwork$Router" "FlowNetwork$Router" "flow" "LFlowNetwork$Flow;") ∈ TB := TB_mem (List.mem_of_getElem? (i := 143) (by decide +kernel)) rfl
theorem tw_110 : (Jvm.Cond.soleField "FlowNetwork$Router" "flow") ∈ TB := TB_mem (List.mem_of_getElem? (i := 144) (by decide +kernel)) rfl
theorem tw_111 : (Jvm.Cond.laysFinal "FlowNetwork$Router" "FlowNetwork$Router" "excess" "[I") ∈ TB := TB_mem (List.mem_of_getElem? (i := 145) (by decide +kernel)) rfl
theorem tw_112 : (Jvm.Cond.soleField "FlowNetwork$Router" "excess") ∈ TB := TB_mem (List.mem_of_getElem? (i := 146) (by decide +kernel)) rfl
theorem tw_113 : (Jvm.Cond.laysFinal "FlowNetwork$Router" "FlowNetwork$Router" "height" "[I") ∈ TB := TB_mem (List.mem_of_getElem? (i := 147) (by decide +kernel)) rfl
theorem tw_114 : (Jvm.Cond.soleField "FlowNetwork$Router" "height") ∈ TB := TB_mem (List.mem_of_getElem? (i := 148) (by decide +kernel)) rfl
theorem tw_115 : (Jvm.Cond.laysFinal "FlowNetwork$Router" "FlowNetwork$Router" "queue" "[I") ∈ TB := TB_mem (List.mem_of_getElem? (i := 149) (by decide +kernel)) rfl
theorem tw_116 : (Jvm.Cond.soleField "FlowNetwork$Router" "queue") ∈ TB := TB_mem (List.mem_of_getElem? (i := 150) (by decide +kernel)) rfl
theorem tw_117 : (Jvm.Cond.lays "FlowNetwork$Router" "FlowNetwork$Router" "start" "I") ∈ TB := TB_mem (List.mem_of_getElem? (i := 151) (by decide +kernel)) rfl
theorem tw_118 : (Jvm.Cond.soleField "FlowNetwork$Router" "start") ∈ TB := TB_mem (List.mem_of_getElem? (i := 152) (by decide +kernel)) rfl
theorem tw_119 : (Jvm.Cond.lays "FlowNetwork$Router" "FlowNetwork$Router" "goal" "I") ∈ TB := TB_mem (List.mem_of_getElem? (i := 153) (by decide +kernel)) rfl
theorem tw_120 : (Jvm.Cond.soleField "FlowNetwork$Router" "goal") ∈ TB := TB_mem (List.mem_of_getElem? (i := 154) (by decide +kernel)) rfl
theorem tw_121 : (Jvm.Cond.superclass "FlowNetwork$Router" "java/lang/Object") ∈ TB := TB_mem (List.mem_of_getElem? (i := 155) (by decide +kernel)) rfl
theorem tw_122 : (Jvm.Cond.fieldLink "FlowNetwork$MaximumFlow" (23 : Nat) "FlowNetwork$MaximumFlow" "network" "LFlowNetwork$Network;") ∈ TB := TB_mem (List.mem_of_getElem? (i := 156) (by decide +kernel)) rfl
theorem tw_123 : (Jvm.Cond.fieldLink "FlowNetwork$MaximumFlow" (27 : Nat) "FlowNetwork$MaximumFlow" "flow" "LFlowNetwork$Flow;") ∈ TB := TB_mem (List.mem_of_getElem? (i := 157) (by decide +kernel)) rfl
theorem tn_124 : (Jvm.Cond.fieldLinkNest "FlowNetwork" (83 : Nat) "FlowNetwork$MaximumFlow" "flow" "LFlowNetwork$Flow;" "FlowNetwork") ∈ NW := NW_mem (List.mem_of_getElem? (i := 158) (by decide +kernel)) rfl
theorem tw_125 : (Jvm.Cond.fieldLink "FlowNetwork$MaximumFlow" (36 : Nat) "FlowNetwork$MaximumFlow" "router" "LFlowNetwork$Router;") ∈ TB := TB_mem (List.mem_of_getElem? (i := 159) (by decide +kernel)) rfl
theorem tn_126 : (Jvm.Cond.fieldLinkNest "FlowNetwork" (224 : Nat) "FlowNetwork$MaximumFlow" "router" "LFlowNetwork$Router;" "FlowNetwork") ∈ NW := NW_mem (List.mem_of_getElem? (i := 160) (by decide +kernel)) rfl
theorem tw_127 : (Jvm.Cond.fieldLink "FlowNetwork$MaximumFlow" (9 : Nat) "FlowNetwork$MaximumFlow" "source" "I") ∈ TB := TB_mem (List.mem_of_getElem? (i := 161) (by decide +kernel)) rfl
theorem tn_128 : (Jvm.Cond.fieldLinkNest "FlowNetwork" (121 : Nat) "FlowNetwork$MaximumFlow" "source" "I" "FlowNetwork") ∈ NW := NW_mem (List.mem_of_getElem? (i := 162) (by decide +kernel)) rfl
theorem tw_129 : (Jvm.Cond.fieldLink "FlowNetwork$MaximumFlow" (15 : Nat) "FlowNetwork$MaximumFlow" "sink" "I") ∈ TB := TB_mem (List.mem_of_getElem? (i := 163) (by decide +kernel)) rfl
theorem tn_130 : (Jvm.Cond.fieldLinkNest "FlowNetwork" (176 : Nat) "FlowNetwork$MaximumFlow" "sink" "I" "FlowNetwork") ∈ NW := NW_mem (List.mem_of_getElem? (i := 164) (by decide +kernel)) rfl
theorem tw_131 : (Jvm.Cond.fieldLink "FlowNetwork$MaximumFlow" (44 : Nat) "FlowNetwork$MaximumFlow" "settled" "Z") ∈ TB := TB_mem (List.mem_of_getElem? (i := 165) (by decide +kernel)) rfl
theorem tw_132 : (Jvm.Cond.laysFinal "FlowNetwork$MaximumFlow" "FlowNetwork$MaximumFlow" "network" "LFlowNetwork$Network;") ∈ TB := TB_mem (List.mem_of_getElem? (i := 166) (by decide +kernel)) rfl
theorem tw_133 : (Jvm.Cond.soleField "FlowNetwork$MaximumFlow" "network") ∈ TB := TB_mem (List.mem_of_getElem? (i := 167) (by decide +kernel)) rfl
theorem tw_134 : (Jvm.Cond.laysFinal "FlowNetwork$MaximumFlow" "FlowNetwork$MaximumFlow" "flow" "LFlowNetwork$Flow;") ∈ TB := TB_mem (List.mem_of_getElem? (i := 168) (by decide +kernel)) rfl
theorem tw_135 : (Jvm.Cond.soleField "FlowNetwork$MaximumFlow" "flow") ∈ TB := TB_mem (List.mem_of_getElem? (i := 169) (by decide +kernel)) rfl
theorem tw_136 : (Jvm.Cond.laysFinal "FlowNetwork$MaximumFlow" "FlowNetwork$MaximumFlow" "router" "LFlowNetwork$Router;") ∈ TB := TB_mem (List.mem_of_getElem? (i := 170) (by decide +kernel)) rfl
theorem tw_137 : (Jvm.Cond.soleField "FlowNetwork$MaximumFlow" "router") ∈ TB := TB_mem (List.mem_of_getElem? (i := 171) (by decide +kernel)) rfl
theorem tw_138 : (Jvm.Cond.lays "FlowNetwork$MaximumFlow" "FlowNetwork$MaximumFlow" "source" "I") ∈ TB := TB_mem (List.mem_of_getElem? (i := 172) (by decide +kernel)) rfl
theorem tw_139 : (Jvm.Cond.soleField "FlowNetwork$MaximumFlow" "source") ∈ TB := TB_mem (List.mem_of_getElem? (i := 173) (by decide +kernel)) rfl
theorem tw_140 : (Jvm.Cond.lays "FlowNetwork$MaximumFlow" "FlowNetwork$MaximumFlow" "sink" "I") ∈ TB := TB_mem (List.mem_of_getElem? (i := 174) (by decide +kernel)) rfl
theorem tw_141 : (Jvm.Cond.soleField "FlowNetwork$MaximumFlow" "sink") ∈ TB := TB_mem (List.mem_of_getElem? (i := 175) (by decide +kernel)) rfl
theorem tw_142 : (Jvm.Cond.lays "FlowNetwork$MaximumFlow" "FlowNetwork$MaximumFlow" "settled" "Z") ∈ TB := TB_mem (List.mem_of_getElem? (i := 176) (by decide +kernel)) rfl
theorem tw_143 : (Jvm.Cond.soleField "FlowNetwork$MaximumFlow" "settled") ∈ TB := TB_mem (List.mem_of_getElem? (i := 177) (by decide +kernel)) rfl
theorem tw_144 : (Jvm.Cond.superclass "FlowNetwork$MaximumFlow" "java/lang/Object") ∈ TB := TB_mem (List.mem_of_getElem? (i := 178) (by decide +kernel)) rfl
theorem tw_145 : (Jvm.Cond.classLink "FlowNetwork" (28 : Nat) "FlowNetwork$Levels") ∈ TB := TB_mem (List.mem_of_getElem? (i := 179) (by decide +kernel)) rfl
theorem tw_146 : (Jvm.Cond.instantiable "FlowNetwork$Levels" (4 : Nat)) ∈ TB := TB_mem (List.mem_of_getElem? (i := 180) (by decide +kernel)) rfl
theorem tn_147 : (Jvm.Cond.methodLinkNest "FlowNetwork" (30 : Nat) ({ cls := "FlowNetwork$Levels", name := "<init>", desc := "()V" } : Jvm.MethodName) "FlowNetwork") ∈ NW := NW_mem (List.mem_of_getElem? (i := 181) (by decide +kernel)) rfl
theorem tw_148 : (Jvm.Cond.instanceMethod ({ cls := "FlowNetwork$Levels", name := "<init>", desc := "()V" } : Jvm.MethodName)) ∈ TB := TB_mem (List.mem_of_getElem? (i := 182) (by decide +kernel)) rfl
theorem tw_149 : (Jvm.Cond.code ({ cls := "FlowNetwork$Levels", name := "<init>", desc := "()V" } : Jvm.MethodName) prog_4_method_1_code (1 : Nat) (Option.none : Option Jvm.ClassFile.FieldType)) ∈ TB := TB_mem (List.mem_of_getElem? (i := 183) (by decide +kernel)) rfl
theorem tw_150 : (Jvm.Cond.methodLink "FlowNetwork$Levels" (3 : Nat) ({ cls := "java/lang/Object", name := "<init>", desc := "()V" } : Jvm.MethodName)) ∈ TB := TB_mem (List.mem_of_getElem? (i := 184) (by decide +kernel)) rfl
theorem tw_151 : (Jvm.Cond.classLink "FlowNetwork$Levels" (9 : Nat) "[[I") ∈ TB := TB_mem (List.mem_of_getElem? (i := 185) (by decide +kernel)) rfl
theorem tw_152 : (Jvm.Cond.fieldLink "FlowNetwork$Levels" (11 : Nat) "FlowNetwork$Levels" "capacity" "[[I") ∈ TB := TB_mem (List.mem_of_getElem? (i := 186) (by decide +kernel)) rfl
theorem tw_153 : (Jvm.Cond.fieldLink "FlowNetwork$Levels" (16 : Nat) "FlowNetwork$Levels" "source" "[I") ∈ TB := TB_mem (List.mem_of_getElem? (i := 187) (by decide +kernel)) rfl
theorem tw_154 : (Jvm.Cond.fieldLink "FlowNetwork$Levels" (20 : Nat) "FlowNetwork$Levels" "sink" "[I") ∈ TB := TB_mem (List.mem_of_getElem? (i := 188) (by decide +kernel)) rfl
theorem tw_155 : (Jvm.Cond.lays "FlowNetwork$Levels" "FlowNetwork$Levels" "count" "I") ∈ TB := TB_mem (List.mem_of_getElem? (i := 189) (by decide +kernel)) rfl
theorem tw_156 : (Jvm.Cond.soleField "FlowNetwork$Levels" "count") ∈ TB := TB_mem (List.mem_of_getElem? (i := 190) (by decide +kernel)) rfl
theorem tw_157 : (Jvm.Cond.laysFinal "FlowNetwork$Levels" "FlowNetwork$Levels" "capacity" "[[I") ∈ TB := TB_mem (List.mem_of_getElem? (i := 191) (by decide +kernel)) rfl
theorem tw_158 : (Jvm.Cond.soleField "FlowNetwork$Levels" "capacity") ∈ TB := TB_mem (List.mem_of_getElem? (i := 192) (by decide +kernel)) rfl
theorem tw_159 : (Jvm.Cond.laysFinal "FlowNetwork$Levels" "FlowNetwork$Levels" "source" "[I") ∈ TB := TB_mem (List.mem_of_getElem? (i := 193) (by decide +kernel)) rfl
theorem tw_160 : (Jvm.Cond.soleField "FlowNetwork$Levels" "source") ∈ TB := TB_mem (List.mem_of_getElem? (i := 194) (by decide +kernel)) rfl
theorem tw_161 : (Jvm.Cond.laysFinal "FlowNetwork$Levels" "FlowNetwork$Levels" "sink" "[I") ∈ TB := TB_mem (List.mem_of_getElem? (i := 195) (by decide +kernel)) rfl
theorem tw_162 : (Jvm.Cond.soleField "FlowNetwork$Levels" "sink") ∈ TB := TB_mem (List.mem_of_getElem? (i := 196) (by decide +kernel)) rfl
theorem tw_163 : (Jvm.Cond.superclass "FlowNetwork$Levels" "java/lang/Object") ∈ TB := TB_mem (List.mem_of_getElem? (i := 197) (by decide +kernel)) rfl
theorem tw_164 : (Jvm.Cond.classLink "FlowNetwork" (35 : Nat) "FlowNetwork$Cuts") ∈ TB := TB_mem (List.mem_of_getElem? (i := 198) (by decide +kernel)) rfl
theorem tw_165 : (Jvm.Cond.instantiable "FlowNetwork$Cuts" (3 : Nat)) ∈ TB := TB_mem (List.mem_of_getElem? (i := 199) (by decide +kernel)) rfl
theorem tn_166 : (Jvm.Cond.methodLinkNest "FlowNetwork" (37 : Nat) ({ cls := "FlowNetwork$Cuts", name := "<init>", desc := "()V" } : Jvm.MethodName) "FlowNetwork") ∈ NW := NW_mem (List.mem_of_getElem? (i := 200) (by decide +kernel)) rfl
theorem tw_167 : (Jvm.Cond.instanceMethod ({ cls := "FlowNetwork$Cuts", name := "<init>", desc := "()V" } : Jvm.MethodName)) ∈ TB := TB_mem (List.mem_of_getElem? (i := 201) (by decide +kernel)) rfl
theorem tw_168 : (Jvm.Cond.code ({ cls := "FlowNetwork$Cuts", name := "<init>", desc := "()V" } : Jvm.MethodName) prog_2_method_1_code (1 : Nat) (Option.none : Option Jvm.ClassFile.FieldType)) ∈ TB := TB_mem (List.mem_of_getElem? (i := 202) (by decide +kernel)) rfl
theorem tw_169 : (Jvm.Cond.methodLink "FlowNetwork$Cuts" (3 : Nat) ({ cls := "java/lang/Object", name := "<init>", desc := "()V" } : Jvm.MethodName)) ∈ TB := TB_mem (List.mem_of_getElem? (i := 203) (by decide +kernel)) rfl
theorem tw_170 : (Jvm.Cond.fieldLink "FlowNetwork$Cuts" (9 : Nat) "FlowNetwork$Cuts" "masks" "[I") ∈ TB := TB_mem (List.mem_of_getElem? (i := 204) (by decide +kernel)) rfl
theorem tw_171 : (Jvm.Cond.fieldLink "FlowNetwork$Cuts" (15 : Nat) "FlowNetwork$Cuts" "reachable" "[I") ∈ TB := TB_mem (List.mem_of_getElem? (i := 205) (by decide +kernel)) rfl
theorem tw_172 : (Jvm.Cond.lays "FlowNetwork$Cuts" "FlowNetwork$Cuts" "count" "I") ∈ TB := TB_mem (List.mem_of_getElem? (i := 206) (by decide +kernel)) rfl
theorem tw_173 : (Jvm.Cond.soleField "FlowNetwork$Cuts" "count") ∈ TB := TB_mem (List.mem_of_getElem? (i := 207) (by decide +kernel)) rfl
theorem tw_174 : (Jvm.Cond.laysFinal "FlowNetwork$Cuts" "FlowNetwork$Cuts" "masks" "[I") ∈ TB := TB_mem (List.mem_of_getElem? (i := 208) (by decide +kernel)) rfl
theorem tw_175 : (Jvm.Cond.soleField "FlowNetwork$Cuts" "masks") ∈ TB := TB_mem (List.mem_of_getElem? (i := 209) (by decide +kernel)) rfl
theorem tw_176 : (Jvm.Cond.laysFinal "FlowNetwork$Cuts" "FlowNetwork$Cuts" "reachable" "[I") ∈ TB := TB_mem (List.mem_of_getElem? (i := 210) (by decide +kernel)) rfl
theorem tw_177 : (Jvm.Cond.soleField "FlowNetwork$Cuts" "reachable") ∈ TB := TB_mem (List.mem_of_getElem? (i := 211) (by decide +kernel)) rfl
theorem tw_178 : (Jvm.Cond.superclass "FlowNetwork$Cuts" "java/lang/Object") ∈ TB := TB_mem (List.mem_of_getElem? (i := 212) (by decide +kernel)) rfl
theorem tw_179 : (Jvm.Cond.fieldLink "FlowNetwork" (10 : Nat) "FlowNetwork" "network" "LFlowNetwork$Network;") ∈ TB := TB_mem (List.mem_of_getElem? (i := 213) (by decide +kernel)) rfl
theorem tw_180 : (Jvm.Cond.fieldLink "FlowNetwork" (21 : Nat) "FlowNetwork" "current" "LFlowNetwork$MaximumFlow;") ∈ TB := TB_mem (List.mem_of_getElem? (i := 214) (by decide +kernel)) rfl
theorem tw_181 : (Jvm.Cond.fieldLink "FlowNetwork" (25 : Nat) "FlowNetwork" "trial" "LFlowNetwork$MaximumFlow;") ∈ TB := TB_mem (List.mem_of_getElem? (i := 215) (by decide +kernel)) rfl
theorem tw_182 : (Jvm.Cond.fieldLink "FlowNetwork" (31 : Nat) "FlowNetwork" "levels" "LFlowNetwork$Levels;") ∈ TB := TB_mem (List.mem_of_getElem? (i := 216) (by decide +kernel)) rfl
theorem tw_183 : (Jvm.Cond.fieldLink "FlowNetwork" (38 : Nat) "FlowNetwork" "cuts" "LFlowNetwork$Cuts;") ∈ TB := TB_mem (List.mem_of_getElem? (i := 217) (by decide +kernel)) rfl
theorem tw_184 : (Jvm.Cond.laysFinal "FlowNetwork" "FlowNetwork" "network" "LFlowNetwork$Network;") ∈ TB := TB_mem (List.mem_of_getElem? (i := 218) (by decide +kernel)) rfl
theorem tw_185 : (Jvm.Cond.soleField "FlowNetwork" "network") ∈ TB := TB_mem (List.mem_of_getElem? (i := 219) (by decide +kernel)) rfl
theorem tw_186 : (Jvm.Cond.laysFinal "FlowNetwork" "FlowNetwork" "current" "LFlowNetwork$MaximumFlow;") ∈ TB := TB_mem (List.mem_of_getElem? (i := 220) (by decide +kernel)) rfl
theorem tw_187 : (Jvm.Cond.soleField "FlowNetwork" "current") ∈ TB := TB_mem (List.mem_of_getElem? (i := 221) (by decide +kernel)) rfl
theorem tw_188 : (Jvm.Cond.laysFinal "FlowNetwork" "FlowNetwork" "trial" "LFlowNetwork$MaximumFlow;") ∈ TB := TB_mem (List.mem_of_getElem? (i := 222) (by decide +kernel)) rfl
theorem tw_189 : (Jvm.Cond.soleField "FlowNetwork" "trial") ∈ TB := TB_mem (List.mem_of_getElem? (i := 223) (by decide +kernel)) rfl
theorem tw_190 : (Jvm.Cond.laysFinal "FlowNetwork" "FlowNetwork" "levels" "LFlowNetwork$Levels;") ∈ TB := TB_mem (List.mem_of_getElem? (i := 224) (by decide +kernel)) rfl
theorem tw_191 : (Jvm.Cond.soleField "FlowNetwork" "levels") ∈ TB := TB_mem (List.mem_of_getElem? (i := 225) (by decide +kernel)) rfl
theorem tw_192 : (Jvm.Cond.laysFinal "FlowNetwork" "FlowNetwork" "cuts" "LFlowNetwork$Cuts;") ∈ TB := TB_mem (List.mem_of_getElem? (i := 226) (by decide +kernel)) rfl
theorem tw_193 : (Jvm.Cond.soleField "FlowNetwork" "cuts") ∈ TB := TB_mem (List.mem_of_getElem? (i := 227) (by decide +kernel)) rfl
theorem tw_194 : (Jvm.Cond.superclass "FlowNetwork" "java/lang/Object") ∈ TB := TB_mem (List.mem_of_getElem? (i := 228) (by decide +kernel)) rfl
theorem tw_195 : (Jvm.Cond.methodLink "FlowNetworkLaw" (49 : Nat) ({ cls := "FlowNetwork", name := "setCapacity", desc := "(II)I" } : Jvm.MethodName)) ∈ TB := TB_mem (List.mem_of_getElem? (i := 229) (by decide +kernel)) rfl
theorem tw_196 : (Jvm.Cond.instanceMethod ({ cls := "FlowNetwork", name := "setCapacity", desc := "(II)I" } : Jvm.MethodName)) ∈ TB := TB_mem (List.mem_of_getElem? (i := 230) (by decide +kernel)) rfl
theorem tw_197 : (Jvm.Cond.selects "FlowNetwork" ({ cls := "FlowNetwork", name := "setCapacity", desc := "(II)I" } : Jvm.MethodName) ({ cls := "FlowNetwork", name := "setCapacity", desc := "(II)I" } : Jvm.MethodName)) ∈ TB := TB_mem (List.mem_of_getElem? (i := 231) (by decide +kernel)) rfl
theorem tw_198 : (Jvm.Cond.code ({ cls := "FlowNetwork", name := "setCapacity", desc := "(II)I" } : Jvm.MethodName) prog_1_method_4_code (4 : Nat) (Option.some Jvm.ClassFile.FieldType.int)) ∈ TB := TB_mem (List.mem_of_getElem? (i := 232) (by decide +kernel)) rfl
theorem tw_199 : (Jvm.Cond.methodLink "FlowNetwork" (80 : Nat) ({ cls := "FlowNetwork", name := "requireArc", desc := "(I)V" } : Jvm.MethodName)) ∈ TB := TB_mem (List.mem_of_getElem? (i := 233) (by decide +kernel)) rfl
theorem tw_201 : (Jvm.Cond.instanceMethod ({ cls := "FlowNetwork", name := "requireArc", desc := "(I)V" } : Jvm.MethodName)) ∈ TB := TB_mem (List.mem_of_getElem? (i := 235) (by decide +kernel)) rfl
theorem tw_202 : (Jvm.Cond.code ({ cls := "FlowNetwork", name := "requireArc", desc := "(I)V" } : Jvm.MethodName) prog_1_method_30_code (2 : Nat) (Option.none : Option Jvm.ClassFile.FieldType)) ∈ TB := TB_mem (List.mem_of_getElem? (i := 236) (by decide +kernel)) rfl
theorem tw_203 : (Jvm.Cond.classLink "FlowNetwork" (162 : Nat) "java/lang/IndexOutOfBoundsException") ∈ TB := TB_mem (List.mem_of_getElem? (i := 237) (by decide +kernel)) rfl
theorem tw_204 : (Jvm.Cond.instantiable "java/lang/IndexOutOfBoundsException" (6 : Nat)) ∈ TB := TB_mem (List.mem_of_getElem? (i := 238) (by decide +kernel)) rfl
theorem tn_205 : (Jvm.Cond.castable "java/lang/IndexOutOfBoundsException" "java/lang/IndexOutOfBoundsException") ∈ NW := NW_mem (List.mem_of_getElem? (i := 239) (by decide +kernel)) rfl
theorem tn_206 : (Jvm.Cond.declares ({ cls := "java/lang/RuntimeException", name := "<init>", desc := "()V" } : Jvm.MethodName)) ∈ NW := NW_mem (List.mem_of_getElem? (i := 240) (by decide +kernel)) rfl
theorem tn_207 : (Jvm.Cond.declares ({ cls := "java/lang/RuntimeException", name := "<init>", desc := "(Ljava/lang/String;)V" } : Jvm.MethodName)) ∈ NW := NW_mem (List.mem_of_getElem? (i := 241) (by decide +kernel)) rfl
theorem tn_208 : (Jvm.Cond.declares ({ cls := "java/lang/Exception", name := "<init>", desc := "()V" } : Jvm.MethodName)) ∈ NW := NW_mem (List.mem_of_getElem? (i := 242) (by decide +kernel)) rfl
theorem tn_209 : (Jvm.Cond.declares ({ cls := "java/lang/Exception", name := "<init>", desc := "(Ljava/lang/String;)V" } : Jvm.MethodName)) ∈ NW := NW_mem (List.mem_of_getElem? (i := 243) (by decide +kernel)) rfl
theorem tn_210 : (Jvm.Cond.declares ({ cls := "java/lang/Throwable", name := "<init>", desc := "()V" } : Jvm.MethodName)) ∈ NW := NW_mem (List.mem_of_getElem? (i := 244) (by decide +kernel)) rfl
theorem tn_211 : (Jvm.Cond.declares ({ cls := "java/lang/Throwable", name := "<init>", desc := "(Ljava/lang/String;)V" } : Jvm.MethodName)) ∈ NW := NW_mem (List.mem_of_getElem? (i := 245) (by decide +kernel)) rfl
theorem tw_212 : (Jvm.Cond.selects "java/lang/IndexOutOfBoundsException" ({ cls := "java/lang/Throwable", name := "fillInStackTrace", desc := "(I)Ljava/lang/Throwable;" } : Jvm.MethodName) ({ cls := "java/lang/Throwable", name := "fillInStackTrace", desc := "(I)Ljava/lang/Throwable;" } : Jvm.MethodName)) ∈ TB := TB_mem (List.mem_of_getElem? (i := 246) (by decide +kernel)) rfl
theorem tw_213 : (Jvm.Cond.selects "java/lang/IndexOutOfBoundsException" ({ cls := "java/lang/Throwable", name := "fillInStackTrace", desc := "()Ljava/lang/Throwable;" } : Jvm.MethodName) ({ cls := "java/lang/Throwable", name := "fillInStackTrace", desc := "()Ljava/lang/Throwable;" } : Jvm.MethodName)) ∈ TB := TB_mem (List.mem_of_getElem? (i := 247) (by decide +kernel)) rfl
theorem tw_214 : (Jvm.Cond.lays "java/lang/IndexOutOfBoundsException" "java/lang/Throwable" "cause" "Ljava/lang/Throwable;") ∈ TB := TB_mem (List.mem_of_getElem? (i := 248) (by decide +kernel)) rfl
theorem tw_215 : (Jvm.Cond.lays "java/lang/Throwable" "java/lang/Throwable" "cause" "Ljava/lang/Throwable;") ∈ TB := TB_mem (List.mem_of_getElem? (i := 249) (by decide +kernel)) rfl
theorem tw_216 : (Jvm.Cond.lays "java/lang/IndexOutOfBoundsException" "java/lang/Throwable" "stackTrace" "[Ljava/lang/StackTraceElement;") ∈ TB := TB_mem (List.mem_of_getElem? (i := 250) (by decide +kernel)) rfl
theorem tw_217 : (Jvm.Cond.lays "java/lang/Throwable" "java/lang/Throwable" "stackTrace" "[Ljava/lang/StackTraceElement;") ∈ TB := TB_mem (List.mem_of_getElem? (i := 251) (by decide +kernel)) rfl
theorem tw_218 : (Jvm.Cond.lays "java/lang/IndexOutOfBoundsException" "java/lang/Throwable" "suppressedExceptions" "Ljava/util/List;") ∈ TB := TB_mem (List.mem_of_getElem? (i := 252) (by decide +kernel)) rfl
theorem tw_219 : (Jvm.Cond.lays "java/lang/Throwable" "java/lang/Throwable" "suppressedExceptions" "Ljava/util/List;") ∈ TB := TB_mem (List.mem_of_getElem? (i := 253) (by decide +kernel)) rfl
theorem tw_220 : (Jvm.Cond.lays "java/lang/IndexOutOfBoundsException" "java/lang/Throwable" "detailMessage" "Ljava/lang/String;") ∈ TB := TB_mem (List.mem_of_getElem? (i := 254) (by decide +kernel)) rfl
theorem tw_221 : (Jvm.Cond.lays "java/lang/Throwable" "java/lang/Throwable" "detailMessage" "Ljava/lang/String;") ∈ TB := TB_mem (List.mem_of_getElem? (i := 255) (by decide +kernel)) rfl
theorem tw_222 : (Jvm.Cond.lays "java/lang/IndexOutOfBoundsException" "java/lang/Throwable" "backtrace" "Ljava/lang/Object;") ∈ TB := TB_mem (List.mem_of_getElem? (i := 256) (by decide +kernel)) rfl
theorem tw_223 : (Jvm.Cond.lays "java/lang/Throwable" "java/lang/Throwable" "backtrace" "Ljava/lang/Object;") ∈ TB := TB_mem (List.mem_of_getElem? (i := 257) (by decide +kernel)) rfl
theorem tw_224 : (Jvm.Cond.fieldLink "java/lang/Throwable" (198 : Nat) "java/lang/Throwable" "backtrace" "Ljava/lang/Object;") ∈ TB := TB_mem (List.mem_of_getElem? (i := 258) (by decide +kernel)) rfl
theorem tw_225 : (Jvm.Cond.superclass "java/lang/Throwable" "java/lang/Object") ∈ TB := TB_mem (List.mem_of_getElem? (i := 259) (by decide +kernel)) rfl
theorem tw_226 : (Jvm.Cond.instanceMethod ({ cls := "java/lang/Throwable", name := "<init>", desc := "()V" } : Jvm.MethodName)) ∈ TB := TB_mem (List.mem_of_getElem? (i := 260) (by decide +kernel)) rfl
theorem tw_227 : (Jvm.Cond.code ({ cls := "java/lang/Throwable", name := "<init>", desc := "()V" } : Jvm.MethodName) prog_18_method_1_code (1 : Nat) (Option.none : Option Jvm.ClassFile.FieldType)) ∈ TB := TB_mem (List.mem_of_getElem? (i := 261) (by decide +kernel)) rfl
theorem tw_228 : (Jvm.Cond.methodLink "java/lang/Throwable" (1 : Nat) ({ cls := "java/lang/Object", name := "<init>", desc := "()V" } : Jvm.MethodName)) ∈ TB := TB_mem (List.mem_of_getElem? (i := 262) (by decide +kernel)) rfl
theorem tw_229 : (Jvm.Cond.fieldLink "java/lang/Throwable" (13 : Nat) "java/lang/Throwable" "UNASSIGNED_STACK" "[Ljava/lang/StackTraceElement;") ∈ TB := TB_mem (List.mem_of_getElem? (i := 263) (by decide +kernel)) rfl
theorem tw_231 : (Jvm.Cond.fieldLink "java/lang/Throwable" (20 : Nat) "java/lang/Throwable" "SUPPRESSED_SENTINEL" "Ljava/util/List;") ∈ TB := TB_mem (List.mem_of_getElem? (i := 265) (by decide +kernel)) rfl
theorem tw_233 : (Jvm.Cond.methodLink "java/lang/Throwable" (27 : Nat) ({ cls := "java/lang/Throwable", name := "fillInStackTrace", desc := "()Ljava/lang/Throwable;" } : Jvm.MethodName)) ∈ TB := TB_mem (List.mem_of_getElem? (i := 267) (by decide +kernel)) rfl
theorem tw_234 : (Jvm.Cond.instanceMethod ({ cls := "java/lang/Throwable", name := "fillInStackTrace", desc := "()Ljava/lang/Throwable;" } : Jvm.MethodName)) ∈ TB := TB_mem (List.mem_of_getElem? (i := 268) (by decide +kernel)) rfl
theorem tw_235 : (Jvm.Cond.sameMethod "java/lang/Throwable" "java/lang/Throwable" "fillInStackTrace" "()Ljava/lang/Throwable;") ∈ TB := TB_mem (List.mem_of_getElem? (i := 269) (by decide +kernel)) rfl
theorem tw_236 : (Jvm.Cond.selects "java/lang/IllegalArgumentException" ({ cls := "java/lang/Throwable", name := "fillInStackTrace", desc := "()Ljava/lang/Throwable;" } : Jvm.MethodName) ({ cls := "java/lang/Throwable", name := "fillInStackTrace", desc := "()Ljava/lang/Throwable;" } : Jvm.MethodName)) ∈ TB := TB_mem (List.mem_of_getElem? (i := 270) (by decide +kernel)) rfl
theorem tw_237 : (Jvm.Cond.selects "java/lang/IllegalStateException" ({ cls := "java/lang/Throwable", name := "fillInStackTrace", desc := "()Ljava/lang/Throwable;" } : Jvm.MethodName) ({ cls := "java/lang/Throwable", name := "fillInStackTrace", desc := "()Ljava/lang/Throwable;" } : Jvm.MethodName)) ∈ TB := TB_mem (List.mem_of_getElem? (i := 271) (by decide +kernel)) rfl
theorem tw_238 : (Jvm.Cond.codeSync ({ cls := "java/lang/Throwable", name := "fillInStackTrace", desc := "()Ljava/lang/Throwable;" } : Jvm.MethodName) prog_18_method_18_code (1 : Nat) (Option.some (Jvm.ClassFile.FieldType.object "java/lang/Throwable"))) ∈ TB := TB_mem (List.mem_of_getElem? (i := 272) (by decide +kernel)) rfl
theorem tw_239 : (Jvm.Cond.methodLink "java/lang/Throwable" (202 : Nat) ({ cls := "java/lang/Throwable", name := "fillInStackTrace", desc := "(I)Ljava/lang/Throwable;" } : Jvm.MethodName)) ∈ TB := TB_mem (List.mem_of_getElem? (i := 273) (by decide +kernel)) rfl
theorem tw_241 : (Jvm.Cond.instanceMethod ({ cls := "java/lang/Throwable", name := "fillInStackTrace", desc := "(I)Ljava/lang/Throwable;" } : Jvm.MethodName)) ∈ TB := TB_mem (List.mem_of_getElem? (i := 275) (by decide +kernel)) rfl
theorem tw_242 : (Jvm.Cond.instantiable "java/lang/Throwable" (6 : Nat)) ∈ TB := TB_mem (List.mem_of_getElem? (i := 276) (by decide +kernel)) rfl
theorem tw_243 : (Jvm.Cond.native ({ cls := "java/lang/Throwable", name := "fillInStackTrace", desc := "(I)Ljava/lang/Throwable;" } : Jvm.MethodName)) ∈ TB := TB_mem (List.mem_of_getElem? (i := 277) (by decide +kernel)) rfl
theorem tw_245 : (Jvm.Cond.methodLink "FlowNetwork" (166 : Nat) ({ cls := "java/lang/IndexOutOfBoundsException", name := "<init>", desc := "(Ljava/lang/String;)V" } : Jvm.MethodName)) ∈ TB := TB_mem (List.mem_of_getElem? (i := 279) (by decide +kernel)) rfl
theorem tw_246 : (Jvm.Cond.instanceMethod ({ cls := "java/lang/IndexOutOfBoundsException", name := "<init>", desc := "(Ljava/lang/String;)V" } : Jvm.MethodName)) ∈ TB := TB_mem (List.mem_of_getElem? (i := 280) (by decide +kernel)) rfl
theorem tw_247 : (Jvm.Cond.code ({ cls := "java/lang/IndexOutOfBoundsException", name := "<init>", desc := "(Ljava/lang/String;)V" } : Jvm.MethodName) prog_13_method_2_code (2 : Nat) (Option.none : Option Jvm.ClassFile.FieldType)) ∈ TB := TB_mem (List.mem_of_getElem? (i := 281) (by decide +kernel)) rfl
theorem tw_248 : (Jvm.Cond.methodLink "java/lang/IndexOutOfBoundsException" (7 : Nat) ({ cls := "java/lang/RuntimeException", name := "<init>", desc := "(Ljava/lang/String;)V" } : Jvm.MethodName)) ∈ TB := TB_mem (List.mem_of_getElem? (i := 282) (by decide +kernel)) rfl
theorem tw_249 : (Jvm.Cond.instanceMethod ({ cls := "java/lang/RuntimeException", name := "<init>", desc := "(Ljava/lang/String;)V" } : Jvm.MethodName)) ∈ TB := TB_mem (List.mem_of_getElem? (i := 283) (by decide +kernel)) rfl
theorem tw_250 : (Jvm.Cond.code ({ cls := "java/lang/RuntimeException", name := "<init>", desc := "(Ljava/lang/String;)V" } : Jvm.MethodName) prog_15_method_2_code (2 : Nat) (Option.none : Option Jvm.ClassFile.FieldType)) ∈ TB := TB_mem (List.mem_of_getElem? (i := 284) (by decide +kernel)) rfl
theorem tw_251 : (Jvm.Cond.methodLink "java/lang/RuntimeException" (7 : Nat) ({ cls := "java/lang/Exception", name := "<init>", desc := "(Ljava/lang/String;)V" } : Jvm.MethodName)) ∈ TB := TB_mem (List.mem_of_getElem? (i := 285) (by decide +kernel)) rfl
theorem tw_252 : (Jvm.Cond.instanceMethod ({ cls := "java/lang/Exception", name := "<init>", desc := "(Ljava/lang/String;)V" } : Jvm.MethodName)) ∈ TB := TB_mem (List.mem_of_getElem? (i := 286) (by decide +kernel)) rfl
theorem tw_253 : (Jvm.Cond.code ({ cls := "java/lang/Exception", name := "<init>", desc := "(Ljava/lang/String;)V" } : Jvm.MethodName) prog_10_method_2_code (2 : Nat) (Option.none : Option Jvm.ClassFile.FieldType)) ∈ TB := TB_mem (List.mem_of_getElem? (i := 287) (by decide +kernel)) rfl
theorem tw_254 : (Jvm.Cond.methodLink "java/lang/Exception" (7 : Nat) ({ cls := "java/lang/Throwable", name := "<init>", desc := "(Ljava/lang/String;)V" } : Jvm.MethodName)) ∈ TB := TB_mem (List.mem_of_getElem? (i := 288) (by decide +kernel)) rfl
theorem tw_255 : (Jvm.Cond.instanceMethod ({ cls := "java/lang/Throwable", name := "<init>", desc := "(Ljava/lang/String;)V" } : Jvm.MethodName)) ∈ TB := TB_mem (List.mem_of_getElem? (i := 289) (by decide +kernel)) rfl
theorem tw_256 : (Jvm.Cond.code ({ cls := "java/lang/Throwable", name := "<init>", desc := "(Ljava/lang/String;)V" } : Jvm.MethodName) prog_18_method_2_code (2 : Nat) (Option.none : Option Jvm.ClassFile.FieldType)) ∈ TB := TB_mem (List.mem_of_getElem? (i := 290) (by decide +kernel)) rfl
theorem tw_257 : (Jvm.Cond.fieldLink "java/lang/Throwable" (198 : Nat) "java/lang/Throwable" "backtrace" "Ljava/lang/Object;") ∈ TB := TB_mem (List.mem_of_getElem? (i := 291) (by decide +kernel)) rfl
theorem tw_258 : (Jvm.Cond.fieldLink "java/lang/Throwable" (31 : Nat) "java/lang/Throwable" "detailMessage" "Ljava/lang/String;") ∈ TB := TB_mem (List.mem_of_getElem? (i := 292) (by decide +kernel)) rfl
theorem tw_259 : (Jvm.Cond.fieldLink "java/lang/Throwable" (7 : Nat) "java/lang/Throwable" "cause" "Ljava/lang/Throwable;") ∈ TB := TB_mem (List.mem_of_getElem? (i := 293) (by decide +kernel)) rfl
theorem tw_260 : (Jvm.Cond.fieldLink "java/lang/Throwable" (17 : Nat) "java/lang/Throwable" "stackTrace" "[Ljava/lang/StackTraceElement;") ∈ TB := TB_mem (List.mem_of_getElem? (i := 294) (by decide +kernel)) rfl
theorem tw_261 : (Jvm.Cond.fieldLink "java/lang/Throwable" (24 : Nat) "java/lang/Throwable" "suppressedExceptions" "Ljava/util/List;") ∈ TB := TB_mem (List.mem_of_getElem? (i := 295) (by decide +kernel)) rfl
theorem tw_262 : (Jvm.Cond.soleField "java/lang/Throwable" "backtrace") ∈ TB := TB_mem (List.mem_of_getElem? (i := 296) (by decide +kernel)) rfl
theorem tw_263 : (Jvm.Cond.soleField "java/lang/Throwable" "detailMessage") ∈ TB := TB_mem (List.mem_of_getElem? (i := 297) (by decide +kernel)) rfl
theorem tw_264 : (Jvm.Cond.soleField "java/lang/Throwable" "cause") ∈ TB := TB_mem (List.mem_of_getElem? (i := 298) (by decide +kernel)) rfl
theorem tw_265 : (Jvm.Cond.soleField "java/lang/Throwable" "stackTrace") ∈ TB := TB_mem (List.mem_of_getElem? (i := 299) (by decide +kernel)) rfl
theorem tw_266 : (Jvm.Cond.lays "java/lang/IndexOutOfBoundsException" "java/lang/Throwable" "depth" "I") ∈ TB := TB_mem (List.mem_of_getElem? (i := 300) (by decide +kernel)) rfl
theorem tw_267 : (Jvm.Cond.soleField "java/lang/Throwable" "depth") ∈ TB := TB_mem (List.mem_of_getElem? (i := 301) (by decide +kernel)) rfl
theorem tw_268 : (Jvm.Cond.soleField "java/lang/Throwable" "suppressedExceptions") ∈ TB := TB_mem (List.mem_of_getElem? (i := 302) (by decide +kernel)) rfl
theorem tw_269 : (Jvm.Cond.superclass "java/lang/IndexOutOfBoundsException" "java/lang/RuntimeException") ∈ TB := TB_mem (List.mem_of_getElem? (i := 303) (by decide +kernel)) rfl
theorem tw_270 : (Jvm.Cond.arrayClass Jvm.ClassFile.FieldType.byte) ∈ TB := TB_mem (List.mem_of_getElem? (i := 304) (by decide +kernel)) rfl
theorem tw_271 : (Jvm.Cond.methodLink "FlowNetwork" (65 : Nat) ({ cls := "FlowNetwork", name := "requireCapacity", desc := "(I)V" } : Jvm.MethodName)) ∈ TB := TB_mem (List.mem_of_getElem? (i := 305) (by decide +kernel)) rfl
theorem tw_272 : (Jvm.Cond.static ({ cls := "FlowNetwork", name := "requireCapacity", desc := "(I)V" } : Jvm.MethodName)) ∈ TB := TB_mem (List.mem_of_getElem? (i := 306) (by decide +kernel)) rfl
theorem tw_273 : (Jvm.Cond.code ({ cls := "FlowNetwork", name := "requireCapacity", desc := "(I)V" } : Jvm.MethodName) prog_1_method_32_code (1 : Nat) (Option.none : Option Jvm.ClassFile.FieldType)) ∈ TB := TB_mem (List.mem_of_getElem? (i := 307) (by decide +kernel)) rfl
theorem tw_274 : (Jvm.Cond.constant "FlowNetwork" (211 : Nat) (1000000 : Int32)) ∈ TB := TB_mem (List.mem_of_getElem? (i := 308) (by decide +kernel)) rfl
theorem tw_275 : (Jvm.Cond.classLink "FlowNetwork" (145 : Nat) "java/lang/IllegalArgumentException") ∈ TB := TB_mem (List.mem_of_getElem? (i := 309) (by decide +kernel)) rfl
theorem tw_276 : (Jvm.Cond.instantiable "java/lang/IllegalArgumentException" (6 : Nat)) ∈ TB := TB_mem (List.mem_of_getElem? (i := 310) (by decide +kernel)) rfl
theorem tn_277 : (Jvm.Cond.castable "java/lang/IllegalArgumentException" "java/lang/IllegalArgumentException") ∈ NW := NW_mem (List.mem_of_getElem? (i := 311) (by decide +kernel)) rfl
theorem tw_278 : (Jvm.Cond.selects "java/lang/IllegalArgumentException" ({ cls := "java/lang/Throwable", name := "fillInStackTrace", desc := "(I)Ljava/lang/Throwable;" } : Jvm.MethodName) ({ cls := "java/lang/Throwable", name := "fillInStackTrace", desc := "(I)Ljava/lang/Throwable;" } : Jvm.MethodName)) ∈ TB := TB_mem (List.mem_of_getElem? (i := 312) (by decide +kernel)) rfl
theorem tw_279 : (Jvm.Cond.lays "java/lang/IllegalArgumentException" "java/lang/Throwable" "cause" "Ljava/lang/Throwable;") ∈ TB := TB_mem (List.mem_of_getElem? (i := 313) (by decide +kernel)) rfl
theorem tw_280 : (Jvm.Cond.lays "java/lang/IllegalArgumentException" "java/lang/Throwable" "stackTrace" "[Ljava/lang/StackTraceElement;") ∈ TB := TB_mem (List.mem_of_getElem? (i := 314) (by decide +kernel)) rfl
theorem tw_281 : (Jvm.Cond.lays "java/lang/IllegalArgumentException" "java/lang/Throwable" "suppressedExceptions" "Ljava/util/List;") ∈ TB := TB_mem (List.mem_of_getElem? (i := 315) (by decide +kernel)) rfl
theorem tw_282 : (Jvm.Cond.lays "java/lang/IllegalArgumentException" "java/lang/Throwable" "detailMessage" "Ljava/lang/String;") ∈ TB := TB_mem (List.mem_of_getElem? (i := 316) (by decide +kernel)) rfl
theorem tw_283 : (Jvm.Cond.lays "java/lang/IllegalArgumentException" "java/lang/Throwable" "backtrace" "Ljava/lang/Object;") ∈ TB := TB_mem (List.mem_of_getElem? (i := 317) (by decide +kernel)) rfl
theorem tw_285 : (Jvm.Cond.methodLink "FlowNetwork" (149 : Nat) ({ cls := "java/lang/IllegalArgumentException", name := "<init>", desc := "(Ljava/lang/String;)V" } : Jvm.MethodName)) ∈ TB := TB_mem (List.mem_of_getElem? (i := 319) (by decide +kernel)) rfl
theorem tw_286 : (Jvm.Cond.instanceMethod ({ cls := "java/lang/IllegalArgumentException", name := "<init>", desc := "(Ljava/lang/String;)V" } : Jvm.MethodName)) ∈ TB := TB_mem (List.mem_of_getElem? (i := 320) (by decide +kernel)) rfl
theorem tw_287 : (Jvm.Cond.code ({ cls := "java/lang/IllegalArgumentException", name := "<init>", desc := "(Ljava/lang/String;)V" } : Jvm.MethodName) prog_11_method_2_code (2 : Nat) (Option.none : Option Jvm.ClassFile.FieldType)) ∈ TB := TB_mem (List.mem_of_getElem? (i := 321) (by decide +kernel)) rfl
theorem tw_288 : (Jvm.Cond.methodLink "java/lang/IllegalArgumentException" (7 : Nat) ({ cls := "java/lang/RuntimeException", name := "<init>", desc := "(Ljava/lang/String;)V" } : Jvm.MethodName)) ∈ TB := TB_mem (List.mem_of_getElem? (i := 322) (by decide +kernel)) rfl
theorem tw_289 : (Jvm.Cond.lays "java/lang/IllegalArgumentException" "java/lang/Throwable" "depth" "I") ∈ TB := TB_mem (List.mem_of_getElem? (i := 323) (by decide +kernel)) rfl
theorem tw_290 : (Jvm.Cond.superclass "java/lang/IllegalArgumentException" "java/lang/RuntimeException") ∈ TB := TB_mem (List.mem_of_getElem? (i := 324) (by decide +kernel)) rfl
theorem tn_291 : (Jvm.Cond.methodLinkNest "FlowNetwork" (77 : Nat) ({ cls := "FlowNetwork$MaximumFlow", name := "changeCapacity", desc := "(II)V" } : Jvm.MethodName) "FlowNetwork") ∈ NW := NW_mem (List.mem_of_getElem? (i := 325) (by decide +kernel)) rfl
theorem tw_293 : (Jvm.Cond.instanceMethod ({ cls := "FlowNetwork$MaximumFlow", name := "changeCapacity", desc := "(II)V" } : Jvm.MethodName)) ∈ TB := TB_mem (List.mem_of_getElem? (i := 327) (by decide +kernel)) rfl
theorem tw_294 : (Jvm.Cond.code ({ cls := "FlowNetwork$MaximumFlow", name := "changeCapacity", desc := "(II)V" } : Jvm.MethodName) prog_5_method_5_code (4 : Nat) (Option.none : Option Jvm.ClassFile.FieldType)) ∈ TB := TB_mem (List.mem_of_getElem? (i := 328) (by decide +kernel)) rfl
theorem tw_295 : (Jvm.Cond.methodLink "FlowNetwork$MaximumFlow" (69 : Nat) ({ cls := "FlowNetwork$MaximumFlow", name := "moveAway", desc := "(III)V" } : Jvm.MethodName)) ∈ TB := TB_mem (List.mem_of_getElem? (i := 329) (by decide +kernel)) rfl
theorem tw_297 : (Jvm.Cond.instanceMethod ({ cls := "FlowNetwork$MaximumFlow", name := "moveAway", desc := "(III)V" } : Jvm.MethodName)) ∈ TB := TB_mem (List.mem_of_getElem? (i := 331) (by decide +kernel)) rfl
theorem tw_298 : (Jvm.Cond.code ({ cls := "FlowNetwork$MaximumFlow", name := "moveAway", desc := "(III)V" } : Jvm.MethodName) prog_5_method_6_code (5 : Nat) (Option.none : Option Jvm.ClassFile.FieldType)) ∈ TB := TB_mem (List.mem_of_getElem? (i := 332) (by decide +kernel)) rfl
theorem tn_299 : (Jvm.Cond.methodLinkNest "FlowNetwork$MaximumFlow" (73 : Nat) ({ cls := "FlowNetwork$Router", name := "route", desc := "(III)I" } : Jvm.MethodName) "FlowNetwork") ∈ NW := NW_mem (List.mem_of_getElem? (i := 333) (by decide +kernel)) rfl
theorem tw_301 : (Jvm.Cond.instanceMethod ({ cls := "FlowNetwork$Router", name := "route", desc := "(III)I" } : Jvm.MethodName)) ∈ TB := TB_mem (List.mem_of_getElem? (i := 335) (by decide +kernel)) rfl
theorem tw_302 : (Jvm.Cond.code ({ cls := "FlowNetwork$Router", name := "route", desc := "(III)I" } : Jvm.MethodName) prog_7_method_2_code (6 : Nat) (Option.some Jvm.ClassFile.FieldType.int)) ∈ TB := TB_mem (List.mem_of_getElem? (i := 336) (by decide +kernel)) rfl
theorem tw_303 : (Jvm.Cond.methodLink "FlowNetwork$Router" (36 : Nat) ({ cls := "FlowNetwork$Router", name := "setHeights", desc := "()V" } : Jvm.MethodName)) ∈ TB := TB_mem (List.mem_of_getElem? (i := 337) (by decide +kernel)) rfl
theorem tw_305 : (Jvm.Cond.instanceMethod ({ cls := "FlowNetwork$Router", name := "setHeights", desc := "()V" } : Jvm.MethodName)) ∈ TB := TB_mem (List.mem_of_getElem? (i := 339) (by decide +kernel)) rfl
theorem tw_306 : (Jvm.Cond.code ({ cls := "FlowNetwork$Router", name := "setHeights", desc := "()V" } : Jvm.MethodName) prog_7_method_3_code (3 : Nat) (Option.none : Option Jvm.ClassFile.FieldType)) ∈ TB := TB_mem (List.mem_of_getElem? (i := 340) (by decide +kernel)) rfl
theorem tw_307 : (Jvm.Cond.methodLink "FlowNetwork$Router" (39 : Nat) ({ cls := "java/util/Arrays", name := "fill", desc := "([II)V" } : Jvm.MethodName)) ∈ TB := TB_mem (List.mem_of_getElem? (i := 341) (by decide +kernel)) rfl
theorem tw_308 : (Jvm.Cond.static ({ cls := "java/util/Arrays", name := "fill", desc := "([II)V" } : Jvm.MethodName)) ∈ TB := TB_mem (List.mem_of_getElem? (i := 342) (by decide +kernel)) rfl
theorem tw_309 : (Jvm.Cond.code ({ cls := "java/util/Arrays", name := "fill", desc := "([II)V" } : Jvm.MethodName) prog_19_method_103_code (4 : Nat) (Option.none : Option Jvm.ClassFile.FieldType)) ∈ TB := TB_mem (List.mem_of_getElem? (i := 343) (by decide +kernel)) rfl
theorem tw_310 : (Jvm.Cond.methodLink "FlowNetwork$Router" (55 : Nat) ({ cls := "FlowNetwork$Router", name := "findBehind", desc := "(II)I" } : Jvm.MethodName)) ∈ TB := TB_mem (List.mem_of_getElem? (i := 344) (by decide +kernel)) rfl
theorem tw_312 : (Jvm.Cond.instanceMethod ({ cls := "FlowNetwork$Router", name := "findBehind", desc := "(II)I" } : Jvm.MethodName)) ∈ TB := TB_mem (List.mem_of_getElem? (i := 346) (by decide +kernel)) rfl
theorem tw_313 : (Jvm.Cond.code ({ cls := "FlowNetwork$Router", name := "findBehind", desc := "(II)I" } : Jvm.MethodName) prog_7_method_4_code (8 : Nat) (Option.some Jvm.ClassFile.FieldType.int)) ∈ TB := TB_mem (List.mem_of_getElem? (i := 347) (by decide +kernel)) rfl
theorem tn_314 : (Jvm.Cond.methodLinkNest "FlowNetwork$Router" (66 : Nat) ({ cls := "FlowNetwork$Network", name := "otherEnd", desc := "(II)I" } : Jvm.MethodName) "FlowNetwork") ∈ NW := NW_mem (List.mem_of_getElem? (i := 348) (by decide +kernel)) rfl
theorem tw_316 : (Jvm.Cond.instanceMethod ({ cls := "FlowNetwork$Network", name := "otherEnd", desc := "(II)I" } : Jvm.MethodName)) ∈ TB := TB_mem (List.mem_of_getElem? (i := 350) (by decide +kernel)) rfl
theorem tw_317 : (Jvm.Cond.code ({ cls := "FlowNetwork$Network", name := "otherEnd", desc := "(II)I" } : Jvm.MethodName) prog_6_method_5_code (3 : Nat) (Option.some Jvm.ClassFile.FieldType.int)) ∈ TB := TB_mem (List.mem_of_getElem? (i := 351) (by decide +kernel)) rfl
theorem tn_318 : (Jvm.Cond.methodLinkNest "FlowNetwork$Router" (69 : Nat) ({ cls := "FlowNetwork$Flow", name := "room", desc := "(II)I" } : Jvm.MethodName) "FlowNetwork") ∈ NW := NW_mem (List.mem_of_getElem? (i := 352) (by decide +kernel)) rfl
theorem tw_320 : (Jvm.Cond.instanceMethod ({ cls := "FlowNetwork$Flow", name := "room", desc := "(II)I" } : Jvm.MethodName)) ∈ TB := TB_mem (List.mem_of_getElem? (i := 354) (by decide +kernel)) rfl
theorem tw_321 : (Jvm.Cond.code ({ cls := "FlowNetwork$Flow", name := "room", desc := "(II)I" } : Jvm.MethodName) prog_3_method_4_code (3 : Nat) (Option.some Jvm.ClassFile.FieldType.int)) ∈ TB := TB_mem (List.mem_of_getElem? (i := 355) (by decide +kernel)) rfl
theorem tw_322 : (Jvm.Cond.constant "FlowNetwork$Router" (45 : Nat) (1000000 : Int32)) ∈ TB := TB_mem (List.mem_of_getElem? (i := 356) (by decide +kernel)) rfl
theorem tw_323 : (Jvm.Cond.methodLink "FlowNetwork$Router" (46 : Nat) ({ cls := "FlowNetwork$Router", name := "sweepOnce", desc := "()Z" } : Jvm.MethodName)) ∈ TB := TB_mem (List.mem_of_getElem? (i := 357) (by decide +kernel)) rfl
theorem tw_325 : (Jvm.Cond.instanceMethod ({ cls := "FlowNetwork$Router", name := "sweepOnce", desc := "()Z" } : Jvm.MethodName)) ∈ TB := TB_mem (List.mem_of_getElem? (i := 359) (by decide +kernel)) rfl
theorem tw_326 : (Jvm.Cond.code ({ cls := "FlowNetwork$Router", name := "sweepOnce", desc := "()Z" } : Jvm.MethodName) prog_7_method_5_code (3 : Nat) (Option.some Jvm.ClassFile.FieldType.boolean)) ∈ TB := TB_mem (List.mem_of_getElem? (i := 360) (by decide +kernel)) rfl
theorem tw_327 : (Jvm.Cond.methodLink "FlowNetwork$Router" (74 : Nat) ({ cls := "FlowNetwork$Router", name := "isActive", desc := "(I)Z" } : Jvm.MethodName)) ∈ TB := TB_mem (List.mem_of_getElem? (i := 361) (by decide +kernel)) rfl
theorem tw_329 : (Jvm.Cond.instanceMethod ({ cls := "FlowNetwork$Router", name := "isActive", desc := "(I)Z" } : Jvm.MethodName)) ∈ TB := TB_mem (List.mem_of_getElem? (i := 363) (by decide +kernel)) rfl
theorem tw_330 : (Jvm.Cond.code ({ cls := "FlowNetwork$Router", name := "isActive", desc := "(I)Z" } : Jvm.MethodName) prog_7_method_6_code (2 : Nat) (Option.some Jvm.ClassFile.FieldType.boolean)) ∈ TB := TB_mem (List.mem_of_getElem? (i := 364) (by decide +kernel)) rfl
theorem tw_331 : (Jvm.Cond.methodLink "FlowNetwork$Router" (78 : Nat) ({ cls := "FlowNetwork$Router", name := "pushOut", desc := "(I)V" } : Jvm.MethodName)) ∈ TB := TB_mem (List.mem_of_getElem? (i := 365) (by decide +kernel)) rfl
theorem tw_333 : (Jvm.Cond.instanceMethod ({ cls := "FlowNetwork$Router", name := "pushOut", desc := "(I)V" } : Jvm.MethodName)) ∈ TB := TB_mem (List.mem_of_getElem? (i := 367) (by decide +kernel)) rfl
theorem tw_334 : (Jvm.Cond.code ({ cls := "FlowNetwork$Router", name := "pushOut", desc := "(I)V" } : Jvm.MethodName) prog_7_method_7_code (6 : Nat) (Option.none : Option Jvm.ClassFile.FieldType)) ∈ TB := TB_mem (List.mem_of_getElem? (i := 368) (by decide +kernel)) rfl
theorem tw_335 : (Jvm.Cond.methodLink "FlowNetwork$Router" (85 : Nat) ({ cls := "java/lang/Math", name := "min", desc := "(II)I" } : Jvm.MethodName)) ∈ TB := TB_mem (List.mem_of_getElem? (i := 369) (by decide +kernel)) rfl
theorem tw_336 : (Jvm.Cond.static ({ cls := "java/lang/Math", name := "min", desc := "(II)I" } : Jvm.MethodName)) ∈ TB := TB_mem (List.mem_of_getElem? (i := 370) (by decide +kernel)) rfl
theorem tw_337 : (Jvm.Cond.code ({ cls := "java/lang/Math", name := "min", desc := "(II)I" } : Jvm.MethodName) prog_14_method_69_code (2 : Nat) (Option.some Jvm.ClassFile.FieldType.int)) ∈ TB := TB_mem (List.mem_of_getElem? (i := 371) (by decide +kernel)) rfl
theorem tn_338 : (Jvm.Cond.methodLinkNest "FlowNetwork$Router" (90 : Nat) ({ cls := "FlowNetwork$Flow", name := "send", desc := "(III)V" } : Jvm.MethodName) "FlowNetwork") ∈ NW := NW_mem (List.mem_of_getElem? (i := 372) (by decide +kernel)) rfl
theorem tw_340 : (Jvm.Cond.instanceMethod ({ cls := "FlowNetwork$Flow", name := "send", desc := "(III)V" } : Jvm.MethodName)) ∈ TB := TB_mem (List.mem_of_getElem? (i := 374) (by decide +kernel)) rfl
theorem tw_341 : (Jvm.Cond.code ({ cls := "FlowNetwork$Flow", name := "send", desc := "(III)V" } : Jvm.MethodName) prog_3_method_5_code (4 : Nat) (Option.none : Option Jvm.ClassFile.FieldType)) ∈ TB := TB_mem (List.mem_of_getElem? (i := 375) (by decide +kernel)) rfl
theorem tw_342 : (Jvm.Cond.methodLink "FlowNetwork$Router" (82 : Nat) ({ cls := "FlowNetwork$Router", name := "lift", desc := "(I)V" } : Jvm.MethodName)) ∈ TB := TB_mem (List.mem_of_getElem? (i := 376) (by decide +kernel)) rfl
theorem tw_344 : (Jvm.Cond.instanceMethod ({ cls := "FlowNetwork$Router", name := "lift", desc := "(I)V" } : Jvm.MethodName)) ∈ TB := TB_mem (List.mem_of_getElem? (i := 378) (by decide +kernel)) rfl
theorem tw_345 : (Jvm.Cond.code ({ cls := "FlowNetwork$Router", name := "lift", desc := "(I)V" } : Jvm.MethodName) prog_7_method_8_code (5 : Nat) (Option.none : Option Jvm.ClassFile.FieldType)) ∈ TB := TB_mem (List.mem_of_getElem? (i := 379) (by decide +kernel)) rfl
theorem tw_346 : (Jvm.Cond.methodLink "FlowNetworkLaw" (55 : Nat) ({ cls := "FlowNetwork", name := "scale", desc := "(ID)I" } : Jvm.MethodName)) ∈ TB := TB_mem (List.mem_of_getElem? (i := 380) (by decide +kernel)) rfl
theorem tw_347 : (Jvm.Cond.instanceMethod ({ cls := "FlowNetwork", name := "scale", desc := "(ID)I" } : Jvm.MethodName)) ∈ TB := TB_mem (List.mem_of_getElem? (i := 381) (by decide +kernel)) rfl
theorem tw_348 : (Jvm.Cond.selects "FlowNetwork" ({ cls := "FlowNetwork", name := "scale", desc := "(ID)I" } : Jvm.MethodName) ({ cls := "FlowNetwork", name := "scale", desc := "(ID)I" } : Jvm.MethodName)) ∈ TB := TB_mem (List.mem_of_getElem? (i := 382) (by decide +kernel)) rfl
theorem tw_349 : (Jvm.Cond.code ({ cls := "FlowNetwork", name := "scale", desc := "(ID)I" } : Jvm.MethodName) prog_1_method_5_code (8 : Nat) (Option.some Jvm.ClassFile.FieldType.int)) ∈ TB := TB_mem (List.mem_of_getElem? (i := 383) (by decide +kernel)) rfl
theorem tw_350 : (Jvm.Cond.methodLink "FlowNetwork" (57 : Nat) ({ cls := "FlowNetwork", name := "requireNode", desc := "(I)V" } : Jvm.MethodName)) ∈ TB := TB_mem (List.mem_of_getElem? (i := 384) (by decide +kernel)) rfl
theorem tw_352 : (Jvm.Cond.instanceMethod ({ cls := "FlowNetwork", name := "requireNode", desc := "(I)V" } : Jvm.MethodName)) ∈ TB := TB_mem (List.mem_of_getElem? (i := 386) (by decide +kernel)) rfl
theorem tw_353 : (Jvm.Cond.code ({ cls := "FlowNetwork", name := "requireNode", desc := "(I)V" } : Jvm.MethodName) prog_1_method_29_code (2 : Nat) (Option.none : Option Jvm.ClassFile.FieldType)) ∈ TB := TB_mem (List.mem_of_getElem? (i := 387) (by decide +kernel)) rfl
theorem tw_355 : (Jvm.Cond.methodLink "FlowNetwork" (93 : Nat) ({ cls := "FlowNetwork", name := "requireFraction", desc := "(D)V" } : Jvm.MethodName)) ∈ TB := TB_mem (List.mem_of_getElem? (i := 389) (by decide +kernel)) rfl
theorem tw_356 : (Jvm.Cond.static ({ cls := "FlowNetwork", name := "requireFraction", desc := "(D)V" } : Jvm.MethodName)) ∈ TB := TB_mem (List.mem_of_getElem? (i := 390) (by decide +kernel)) rfl
theorem tw_357 : (Jvm.Cond.code ({ cls := "FlowNetwork", name := "requireFraction", desc := "(D)V" } : Jvm.MethodName) prog_1_method_33_code (3 : Nat) (Option.none : Option Jvm.ClassFile.FieldType)) ∈ TB := TB_mem (List.mem_of_getElem? (i := 391) (by decide +kernel)) rfl
theorem tw_358 : (Jvm.Cond.constantDouble "FlowNetwork" (214 : Nat) (4652007308841189376 : UInt64)) ∈ TB := TB_mem (List.mem_of_getElem? (i := 392) (by decide +kernel)) rfl
theorem tw_360 : (Jvm.Cond.methodLink "FlowNetwork" (97 : Nat) ({ cls := "FlowNetwork", name := "scaled", desc := "(ID)I" } : Jvm.MethodName)) ∈ TB := TB_mem (List.mem_of_getElem? (i := 394) (by decide +kernel)) rfl
theorem tw_361 : (Jvm.Cond.static ({ cls := "FlowNetwork", name := "scaled", desc := "(ID)I" } : Jvm.MethodName)) ∈ TB := TB_mem (List.mem_of_getElem? (i := 395) (by decide +kernel)) rfl
theorem tw_362 : (Jvm.Cond.code ({ cls := "FlowNetwork", name := "scaled", desc := "(ID)I" } : Jvm.MethodName) prog_1_method_36_code (9 : Nat) (Option.some Jvm.ClassFile.FieldType.int)) ∈ TB := TB_mem (List.mem_of_getElem? (i := 396) (by decide +kernel)) rfl
theorem tw_363 : (Jvm.Cond.constantDouble "FlowNetwork" (236 : Nat) (4602678819172646912 : UInt64)) ∈ TB := TB_mem (List.mem_of_getElem? (i := 397) (by decide +kernel)) rfl
theorem tw_364 : (Jvm.Cond.methodLink "FlowNetwork" (238 : Nat) ({ cls := "java/lang/Math", name := "min", desc := "(II)I" } : Jvm.MethodName)) ∈ TB := TB_mem (List.mem_of_getElem? (i := 398) (by decide +kernel)) rfl
theorem tw_365 : (Jvm.Cond.methodLink "FlowNetworkLaw" (29 : Nat) ({ cls := "FlowNetwork", name := "setEnds", desc := "(II)Z" } : Jvm.MethodName)) ∈ TB := TB_mem (List.mem_of_getElem? (i := 399) (by decide +kernel)) rfl
theorem tw_366 : (Jvm.Cond.instanceMethod ({ cls := "FlowNetwork", name := "setEnds", desc := "(II)Z" } : Jvm.MethodName)) ∈ TB := TB_mem (List.mem_of_getElem? (i := 400) (by decide +kernel)) rfl
theorem tw_367 : (Jvm.Cond.selects "FlowNetwork" ({ cls := "FlowNetwork", name := "setEnds", desc := "(II)Z" } : Jvm.MethodName) ({ cls := "FlowNetwork", name := "setEnds", desc := "(II)Z" } : Jvm.MethodName)) ∈ TB := TB_mem (List.mem_of_getElem? (i := 401) (by decide +kernel)) rfl
theorem tw_368 : (Jvm.Cond.code ({ cls := "FlowNetwork", name := "setEnds", desc := "(II)Z" } : Jvm.MethodName) prog_1_method_6_code (3 : Nat) (Option.some Jvm.ClassFile.FieldType.boolean)) ∈ TB := TB_mem (List.mem_of_getElem? (i := 402) (by decide +kernel)) rfl
theorem tw_369 : (Jvm.Cond.methodLink "FlowNetwork" (61 : Nat) ({ cls := "FlowNetwork", name := "requireDifferent", desc := "(II)V" } : Jvm.MethodName)) ∈ TB := TB_mem (List.mem_of_getElem? (i := 403) (by decide +kernel)) rfl
theorem tw_370 : (Jvm.Cond.static ({ cls := "FlowNetwork", name := "requireDifferent", desc := "(II)V" } : Jvm.MethodName)) ∈ TB := TB_mem (List.mem_of_getElem? (i := 404) (by decide +kernel)) rfl
theorem tw_371 : (Jvm.Cond.code ({ cls := "FlowNetwork", name := "requireDifferent", desc := "(II)V" } : Jvm.MethodName) prog_1_method_31_code (2 : Nat) (Option.none : Option Jvm.ClassFile.FieldType)) ∈ TB := TB_mem (List.mem_of_getElem? (i := 405) (by decide +kernel)) rfl
theorem tn_373 : (Jvm.Cond.methodLinkNest "FlowNetwork" (104 : Nat) ({ cls := "FlowNetwork$MaximumFlow", name := "chooseEnds", desc := "(II)Z" } : Jvm.MethodName) "FlowNetwork") ∈ NW := NW_mem (List.mem_of_getElem? (i := 407) (by decide +kernel)) rfl
theorem tw_375 : (Jvm.Cond.instanceMethod ({ cls := "FlowNetwork$MaximumFlow", name := "chooseEnds", desc := "(II)Z" } : Jvm.MethodName)) ∈ TB := TB_mem (List.mem_of_getElem? (i := 409) (by decide +kernel)) rfl
theorem tw_376 : (Jvm.Cond.code ({ cls := "FlowNetwork$MaximumFlow", name := "chooseEnds", desc := "(II)Z" } : Jvm.MethodName) prog_5_method_4_code (3 : Nat) (Option.some Jvm.ClassFile.FieldType.boolean)) ∈ TB := TB_mem (List.mem_of_getElem? (i := 410) (by decide +kernel)) rfl
theorem tw_377 : (Jvm.Cond.methodLink "FlowNetwork$MaximumFlow" (52 : Nat) ({ cls := "java/util/Arrays", name := "fill", desc := "([II)V" } : Jvm.MethodName)) ∈ TB := TB_mem (List.mem_of_getElem? (i := 411) (by decide +kernel)) rfl
theorem tw_378 : (Jvm.Cond.methodLink "FlowNetworkLaw" (59 : Nat) ({ cls := "FlowNetwork", name := "maximum", desc := "()I" } : Jvm.MethodName)) ∈ TB := TB_mem (List.mem_of_getElem? (i := 412) (by decide +kernel)) rfl
theorem tw_379 : (Jvm.Cond.instanceMethod ({ cls := "FlowNetwork", name := "maximum", desc := "()I" } : Jvm.MethodName)) ∈ TB := TB_mem (List.mem_of_getElem? (i := 413) (by decide +kernel)) rfl
theorem tw_380 : (Jvm.Cond.selects "FlowNetwork" ({ cls := "FlowNetwork", name := "maximum", desc := "()I" } : Jvm.MethodName) ({ cls := "FlowNetwork", name := "maximum", desc := "()I" } : Jvm.MethodName)) ∈ TB := TB_mem (List.mem_of_getElem? (i := 414) (by decide +kernel)) rfl
theorem tw_381 : (Jvm.Cond.code ({ cls := "FlowNetwork", name := "maximum", desc := "()I" } : Jvm.MethodName) prog_1_method_10_code (1 : Nat) (Option.some Jvm.ClassFile.FieldType.int)) ∈ TB := TB_mem (List.mem_of_getElem? (i := 415) (by decide +kernel)) rfl
theorem tw_382 : (Jvm.Cond.methodLink "FlowNetwork" (108 : Nat) ({ cls := "FlowNetwork", name := "requireEnds", desc := "()V" } : Jvm.MethodName)) ∈ TB := TB_mem (List.mem_of_getElem? (i := 416) (by decide +kernel)) rfl
theorem tw_384 : (Jvm.Cond.instanceMethod ({ cls := "FlowNetwork", name := "requireEnds", desc := "()V" } : Jvm.MethodName)) ∈ TB := TB_mem (List.mem_of_getElem? (i := 418) (by decide +kernel)) rfl
theorem tw_385 : (Jvm.Cond.code ({ cls := "FlowNetwork", name := "requireEnds", desc := "()V" } : Jvm.MethodName) prog_1_method_28_code (1 : Nat) (Option.none : Option Jvm.ClassFile.FieldType)) ∈ TB := TB_mem (List.mem_of_getElem? (i := 419) (by decide +kernel)) rfl
theorem tn_386 : (Jvm.Cond.methodLinkNest "FlowNetwork" (199 : Nat) ({ cls := "FlowNetwork$MaximumFlow", name := "hasEnds", desc := "()Z" } : Jvm.MethodName) "FlowNetwork") ∈ NW := NW_mem (List.mem_of_getElem? (i := 420) (by decide +kernel)) rfl
theorem tw_388 : (Jvm.Cond.instanceMethod ({ cls := "FlowNetwork$MaximumFlow", name := "hasEnds", desc := "()Z" } : Jvm.MethodName)) ∈ TB := TB_mem (List.mem_of_getElem? (i := 422) (by decide +kernel)) rfl
theorem tw_389 : (Jvm.Cond.code ({ cls := "FlowNetwork$MaximumFlow", name := "hasEnds", desc := "()Z" } : Jvm.MethodName) prog_5_method_2_code (1 : Nat) (Option.some Jvm.ClassFile.FieldType.boolean)) ∈ TB := TB_mem (List.mem_of_getElem? (i := 423) (by decide +kernel)) rfl
theorem tw_390 : (Jvm.Cond.classLink "FlowNetwork" (46 : Nat) "java/lang/IllegalStateException") ∈ TB := TB_mem (List.mem_of_getElem? (i := 424) (by decide +kernel)) rfl
theorem tw_391 : (Jvm.Cond.instantiable "java/lang/IllegalStateException" (6 : Nat)) ∈ TB := TB_mem (List.mem_of_getElem? (i := 425) (by decide +kernel)) rfl
theorem tn_392 : (Jvm.Cond.castable "java/lang/IllegalStateException" "java/lang/IllegalStateException") ∈ NW := NW_mem (List.mem_of_getElem? (i := 426) (by decide +kernel)) rfl
theorem tw_393 : (Jvm.Cond.selects "java/lang/IllegalStateException" ({ cls := "java/lang/Throwable", name := "fillInStackTrace", desc := "(I)Ljava/lang/Throwable;" } : Jvm.MethodName) ({ cls := "java/lang/Throwable", name := "fillInStackTrace", desc := "(I)Ljava/lang/Throwable;" } : Jvm.MethodName)) ∈ TB := TB_mem (List.mem_of_getElem? (i := 427) (by decide +kernel)) rfl
theorem tw_394 : (Jvm.Cond.lays "java/lang/IllegalStateException" "java/lang/Throwable" "cause" "Ljava/lang/Throwable;") ∈ TB := TB_mem (List.mem_of_getElem? (i := 428) (by decide +kernel)) rfl
theorem tw_395 : (Jvm.Cond.lays "java/lang/IllegalStateException" "java/lang/Throwable" "stackTrace" "[Ljava/lang/StackTraceElement;") ∈ TB := TB_mem (List.mem_of_getElem? (i := 429) (by decide +kernel)) rfl
theorem tw_396 : (Jvm.Cond.lays "java/lang/IllegalStateException" "java/lang/Throwable" "suppressedExceptions" "Ljava/util/List;") ∈ TB := TB_mem (List.mem_of_getElem? (i := 430) (by decide +kernel)) rfl
theorem tw_397 : (Jvm.Cond.lays "java/lang/IllegalStateException" "java/lang/Throwable" "detailMessage" "Ljava/lang/String;") ∈ TB := TB_mem (List.mem_of_getElem? (i := 431) (by decide +kernel)) rfl
theorem tw_398 : (Jvm.Cond.lays "java/lang/IllegalStateException" "java/lang/Throwable" "backtrace" "Ljava/lang/Object;") ∈ TB := TB_mem (List.mem_of_getElem? (i := 432) (by decide +kernel)) rfl
theorem tw_400 : (Jvm.Cond.methodLink "FlowNetwork" (50 : Nat) ({ cls := "java/lang/IllegalStateException", name := "<init>", desc := "(Ljava/lang/String;)V" } : Jvm.MethodName)) ∈ TB := TB_mem (List.mem_of_getElem? (i := 434) (by decide +kernel)) rfl
theorem tw_401 : (Jvm.Cond.instanceMethod ({ cls := "java/lang/IllegalStateException", name := "<init>", desc := "(Ljava/lang/String;)V" } : Jvm.MethodName)) ∈ TB := TB_mem (List.mem_of_getElem? (i := 435) (by decide +kernel)) rfl
theorem tw_402 : (Jvm.Cond.code ({ cls := "java/lang/IllegalStateException", name := "<init>", desc := "(Ljava/lang/String;)V" } : Jvm.MethodName) prog_12_method_2_code (2 : Nat) (Option.none : Option Jvm.ClassFile.FieldType)) ∈ TB := TB_mem (List.mem_of_getElem? (i := 436) (by decide +kernel)) rfl
theorem tw_403 : (Jvm.Cond.methodLink "java/lang/IllegalStateException" (7 : Nat) ({ cls := "java/lang/RuntimeException", name := "<init>", desc := "(Ljava/lang/String;)V" } : Jvm.MethodName)) ∈ TB := TB_mem (List.mem_of_getElem? (i := 437) (by decide +kernel)) rfl
theorem tw_404 : (Jvm.Cond.lays "java/lang/IllegalStateException" "java/lang/Throwable" "depth" "I") ∈ TB := TB_mem (List.mem_of_getElem? (i := 438) (by decide +kernel)) rfl
theorem tw_405 : (Jvm.Cond.superclass "java/lang/IllegalStateException" "java/lang/RuntimeException") ∈ TB := TB_mem (List.mem_of_getElem? (i := 439) (by decide +kernel)) rfl
theorem tn_406 : (Jvm.Cond.methodLinkNest "FlowNetwork" (111 : Nat) ({ cls := "FlowNetwork$MaximumFlow", name := "greatestValue", desc := "()I" } : Jvm.MethodName) "FlowNetwork") ∈ NW := NW_mem (List.mem_of_getElem? (i := 440) (by decide +kernel)) rfl
theorem tw_408 : (Jvm.Cond.instanceMethod ({ cls := "FlowNetwork$MaximumFlow", name := "greatestValue", desc := "()I" } : Jvm.MethodName)) ∈ TB := TB_mem (List.mem_of_getElem? (i := 442) (by decide +kernel)) rfl
theorem tw_409 : (Jvm.Cond.code ({ cls := "FlowNetwork$MaximumFlow", name := "greatestValue", desc := "()I" } : Jvm.MethodName) prog_5_method_8_code (3 : Nat) (Option.some Jvm.ClassFile.FieldType.int)) ∈ TB := TB_mem (List.mem_of_getElem? (i := 443) (by decide +kernel)) rfl
theorem tw_410 : (Jvm.Cond.methodLink "FlowNetwork$MaximumFlow" (78 : Nat) ({ cls := "FlowNetwork$MaximumFlow", name := "settle", desc := "()V" } : Jvm.MethodName)) ∈ TB := TB_mem (List.mem_of_getElem? (i := 444) (by decide +kernel)) rfl
theorem tw_412 : (Jvm.Cond.instanceMethod ({ cls := "FlowNetwork$MaximumFlow", name := "settle", desc := "()V" } : Jvm.MethodName)) ∈ TB := TB_mem (List.mem_of_getElem? (i := 446) (by decide +kernel)) rfl
theorem tw_413 : (Jvm.Cond.code ({ cls := "FlowNetwork$MaximumFlow", name := "settle", desc := "()V" } : Jvm.MethodName) prog_5_method_7_code (1 : Nat) (Option.none : Option Jvm.ClassFile.FieldType)) ∈ TB := TB_mem (List.mem_of_getElem? (i := 447) (by decide +kernel)) rfl
theorem tw_414 : (Jvm.Cond.constant "FlowNetwork$MaximumFlow" (77 : Nat) (100000000 : Int32)) ∈ TB := TB_mem (List.mem_of_getElem? (i := 448) (by decide +kernel)) rfl
theorem tw_415 : (Jvm.Cond.methodLink "FlowNetworkLaw" (77 : Nat) ({ cls := "FlowNetwork", name := "maximumWith", desc := "(II)I" } : Jvm.MethodName)) ∈ TB := TB_mem (List.mem_of_getElem? (i := 449) (by decide +kernel)) rfl
theorem tw_416 : (Jvm.Cond.instanceMethod ({ cls := "FlowNetwork", name := "maximumWith", desc := "(II)I" } : Jvm.MethodName)) ∈ TB := TB_mem (List.mem_of_getElem? (i := 450) (by decide +kernel)) rfl
theorem tw_417 : (Jvm.Cond.selects "FlowNetwork" ({ cls := "FlowNetwork", name := "maximumWith", desc := "(II)I" } : Jvm.MethodName) ({ cls := "FlowNetwork", name := "maximumWith", desc := "(II)I" } : Jvm.MethodName)) ∈ TB := TB_mem (List.mem_of_getElem? (i := 451) (by decide +kernel)) rfl
theorem tw_418 : (Jvm.Cond.code ({ cls := "FlowNetwork", name := "maximumWith", desc := "(II)I" } : Jvm.MethodName) prog_1_method_11_code (3 : Nat) (Option.some Jvm.ClassFile.FieldType.int)) ∈ TB := TB_mem (List.mem_of_getElem? (i := 452) (by decide +kernel)) rfl
theorem tn_419 : (Jvm.Cond.methodLinkNest "FlowNetwork" (114 : Nat) ({ cls := "FlowNetwork$MaximumFlow", name := "copy", desc := "(LFlowNetwork$MaximumFlow;)V" } : Jvm.MethodName) "FlowNetwork") ∈ NW := NW_mem (List.mem_of_getElem? (i := 453) (by decide +kernel)) rfl
theorem tw_421 : (Jvm.Cond.instanceMethod ({ cls := "FlowNetwork$MaximumFlow", name := "copy", desc := "(LFlowNetwork$MaximumFlow;)V" } : Jvm.MethodName)) ∈ TB := TB_mem (List.mem_of_getElem? (i := 455) (by decide +kernel)) rfl
theorem tw_422 : (Jvm.Cond.code ({ cls := "FlowNetwork$MaximumFlow", name := "copy", desc := "(LFlowNetwork$MaximumFlow;)V" } : Jvm.MethodName) prog_5_method_3_code (2 : Nat) (Option.none : Option Jvm.ClassFile.FieldType)) ∈ TB := TB_mem (List.mem_of_getElem? (i := 456) (by decide +kernel)) rfl
theorem tn_423 : (Jvm.Cond.methodLinkNest "FlowNetwork$MaximumFlow" (40 : Nat) ({ cls := "FlowNetwork$Flow", name := "copy", desc := "(LFlowNetwork$Flow;)V" } : Jvm.MethodName) "FlowNetwork") ∈ NW := NW_mem (List.mem_of_getElem? (i := 457) (by decide +kernel)) rfl
theorem tw_425 : (Jvm.Cond.instanceMethod ({ cls := "FlowNetwork$Flow", name := "copy", desc := "(LFlowNetwork$Flow;)V" } : Jvm.MethodName)) ∈ TB := TB_mem (List.mem_of_getElem? (i := 459) (by decide +kernel)) rfl
theorem tw_426 : (Jvm.Cond.code ({ cls := "FlowNetwork$Flow", name := "copy", desc := "(LFlowNetwork$Flow;)V" } : Jvm.MethodName) prog_3_method_2_code (2 : Nat) (Option.none : Option Jvm.ClassFile.FieldType)) ∈ TB := TB_mem (List.mem_of_getElem? (i := 460) (by decide +kernel)) rfl
theorem tw_427 : (Jvm.Cond.methodLink "FlowNetwork$Flow" (22 : Nat) ({ cls := "java/lang/System", name := "arraycopy", desc := "(Ljava/lang/Object;ILjava/lang/Object;II)V" } : Jvm.MethodName)) ∈ TB := TB_mem (List.mem_of_getElem? (i := 461) (by decide +kernel)) rfl
theorem tw_428 : (Jvm.Cond.static ({ cls := "java/lang/System", name := "arraycopy", desc := "(Ljava/lang/Object;ILjava/lang/Object;II)V" } : Jvm.MethodName)) ∈ TB := TB_mem (List.mem_of_getElem? (i := 462) (by decide +kernel)) rfl
theorem tw_429 : (Jvm.Cond.native ({ cls := "java/lang/System", name := "arraycopy", desc := "(Ljava/lang/Object;ILjava/lang/Object;II)V" } : Jvm.MethodName)) ∈ TB := TB_mem (List.mem_of_getElem? (i := 463) (by decide +kernel)) rfl
theorem tw_430 : (Jvm.Cond.methodLink "FlowNetworkLaw" (80 : Nat) ({ cls := "FlowNetwork", name := "maximumBetween", desc := "(II)I" } : Jvm.MethodName)) ∈ TB := TB_mem (List.mem_of_getElem? (i := 464) (by decide +kernel)) rfl
theorem tw_431 : (Jvm.Cond.instanceMethod ({ cls := "FlowNetwork", name := "maximumBetween", desc := "(II)I" } : Jvm.MethodName)) ∈ TB := TB_mem (List.mem_of_getElem? (i := 465) (by decide +kernel)) rfl
theorem tw_432 : (Jvm.Cond.selects "FlowNetwork" ({ cls := "FlowNetwork", name := "maximumBetween", desc := "(II)I" } : Jvm.MethodName) ({ cls := "FlowNetwork", name := "maximumBetween", desc := "(II)I" } : Jvm.MethodName)) ∈ TB := TB_mem (List.mem_of_getElem? (i := 466) (by decide +kernel)) rfl
theorem tw_433 : (Jvm.Cond.code ({ cls := "FlowNetwork", name := "maximumBetween", desc := "(II)I" } : Jvm.MethodName) prog_1_method_13_code (3 : Nat) (Option.some Jvm.ClassFile.FieldType.int)) ∈ TB := TB_mem (List.mem_of_getElem? (i := 467) (by decide +kernel)) rfl
theorem tw_434 : (Jvm.Cond.methodLink "FlowNetworkLaw" (71 : Nat) ({ cls := "FlowNetwork", name := "leastFlow", desc := "(I)I" } : Jvm.MethodName)) ∈ TB := TB_mem (List.mem_of_getElem? (i := 468) (by decide +kernel)) rfl
theorem tw_435 : (Jvm.Cond.instanceMethod ({ cls := "FlowNetwork", name := "leastFlow", desc := "(I)I" } : Jvm.MethodName)) ∈ TB := TB_mem (List.mem_of_getElem? (i := 469) (by decide +kernel)) rfl
theorem tw_436 : (Jvm.Cond.selects "FlowNetwork" ({ cls := "FlowNetwork", name := "leastFlow", desc := "(I)I" } : Jvm.MethodName) ({ cls := "FlowNetwork", name := "leastFlow", desc := "(I)I" } : Jvm.MethodName)) ∈ TB := TB_mem (List.mem_of_getElem? (i := 470) (by decide +kernel)) rfl
theorem tw_437 : (Jvm.Cond.code ({ cls := "FlowNetwork", name := "leastFlow", desc := "(I)I" } : Jvm.MethodName) prog_1_method_15_code (4 : Nat) (Option.some Jvm.ClassFile.FieldType.int)) ∈ TB := TB_mem (List.mem_of_getElem? (i := 471) (by decide +kernel)) rfl
theorem tn_438 : (Jvm.Cond.methodLinkNest "FlowNetwork" (128 : Nat) ({ cls := "FlowNetwork$MaximumFlow", name := "settle", desc := "()V" } : Jvm.MethodName) "FlowNetwork") ∈ NW := NW_mem (List.mem_of_getElem? (i := 472) (by decide +kernel)) rfl
theorem tw_439 : (Jvm.Cond.methodLink "FlowNetwork" (134 : Nat) ({ cls := "FlowNetwork", name := "movable", desc := "(III)I" } : Jvm.MethodName)) ∈ TB := TB_mem (List.mem_of_getElem? (i := 473) (by decide +kernel)) rfl
theorem tw_441 : (Jvm.Cond.instanceMethod ({ cls := "FlowNetwork", name := "movable", desc := "(III)I" } : Jvm.MethodName)) ∈ TB := TB_mem (List.mem_of_getElem? (i := 475) (by decide +kernel)) rfl
theorem tw_442 : (Jvm.Cond.code ({ cls := "FlowNetwork", name := "movable", desc := "(III)I" } : Jvm.MethodName) prog_1_method_35_code (4 : Nat) (Option.some Jvm.ClassFile.FieldType.int)) ∈ TB := TB_mem (List.mem_of_getElem? (i := 476) (by decide +kernel)) rfl
theorem tn_443 : (Jvm.Cond.methodLinkNest "FlowNetwork" (221 : Nat) ({ cls := "FlowNetwork$Flow", name := "block", desc := "(I)V" } : Jvm.MethodName) "FlowNetwork") ∈ NW := NW_mem (List.mem_of_getElem? (i := 477) (by decide +kernel)) rfl
theorem tw_445 : (Jvm.Cond.instanceMethod ({ cls := "FlowNetwork$Flow", name := "block", desc := "(I)V" } : Jvm.MethodName)) ∈ TB := TB_mem (List.mem_of_getElem? (i := 479) (by decide +kernel)) rfl
theorem tw_446 : (Jvm.Cond.code ({ cls := "FlowNetwork$Flow", name := "block", desc := "(I)V" } : Jvm.MethodName) prog_3_method_3_code (2 : Nat) (Option.none : Option Jvm.ClassFile.FieldType)) ∈ TB := TB_mem (List.mem_of_getElem? (i := 480) (by decide +kernel)) rfl
theorem tn_447 : (Jvm.Cond.methodLinkNest "FlowNetwork" (228 : Nat) ({ cls := "FlowNetwork$Network", name := "otherEnd", desc := "(II)I" } : Jvm.MethodName) "FlowNetwork") ∈ NW := NW_mem (List.mem_of_getElem? (i := 481) (by decide +kernel)) rfl
theorem tn_448 : (Jvm.Cond.methodLinkNest "FlowNetwork" (231 : Nat) ({ cls := "FlowNetwork$Router", name := "route", desc := "(III)I" } : Jvm.MethodName) "FlowNetwork") ∈ NW := NW_mem (List.mem_of_getElem? (i := 482) (by decide +kernel)) rfl
theorem tw_449 : (Jvm.Cond.methodLink "FlowNetworkLaw" (74 : Nat) ({ cls := "FlowNetwork", name := "greatestFlow", desc := "(I)I" } : Jvm.MethodName)) ∈ TB := TB_mem (List.mem_of_getElem? (i := 483) (by decide +kernel)) rfl
theorem tw_450 : (Jvm.Cond.instanceMethod ({ cls := "FlowNetwork", name := "greatestFlow", desc := "(I)I" } : Jvm.MethodName)) ∈ TB := TB_mem (List.mem_of_getElem? (i := 484) (by decide +kernel)) rfl
theorem tw_451 : (Jvm.Cond.selects "FlowNetwork" ({ cls := "FlowNetwork", name := "greatestFlow", desc := "(I)I" } : Jvm.MethodName) ({ cls := "FlowNetwork", name := "greatestFlow", desc := "(I)I" } : Jvm.MethodName)) ∈ TB := TB_mem (List.mem_of_getElem? (i := 485) (by decide +kernel)) rfl
theorem tw_452 : (Jvm.Cond.code ({ cls := "FlowNetwork", name := "greatestFlow", desc := "(I)I" } : Jvm.MethodName) prog_1_method_16_code (4 : Nat) (Option.some Jvm.ClassFile.FieldType.int)) ∈ TB := TB_mem (List.mem_of_getElem? (i := 486) (by decide +kernel)) rfl
theorem tn_453 : (Jvm.Cond.methodLinkNest "FlowNetwork" (138 : Nat) ({ cls := "FlowNetwork$Flow", name := "room", desc := "(II)I" } : Jvm.MethodName) "FlowNetwork") ∈ NW := NW_mem (List.mem_of_getElem? (i := 487) (by decide +kernel)) rfl
theorem tw_454 : (Jvm.Cond.methodLink "FlowNetworkLaw" (68 : Nat) ({ cls := "FlowNetwork", name := "cutCapacity", desc := "(I)I" } : Jvm.MethodName)) ∈ TB := TB_mem (List.mem_of_getElem? (i := 488) (by decide +kernel)) rfl
theorem tw_455 : (Jvm.Cond.instanceMethod ({ cls := "FlowNetwork", name := "cutCapacity", desc := "(I)I" } : Jvm.MethodName)) ∈ TB := TB_mem (List.mem_of_getElem? (i := 489) (by decide +kernel)) rfl
theorem tw_456 : (Jvm.Cond.selects "FlowNetwork" ({ cls := "FlowNetwork", name := "cutCapacity", desc := "(I)I" } : Jvm.MethodName) ({ cls := "FlowNetwork", name := "cutCapacity", desc := "(I)I" } : Jvm.MethodName)) ∈ TB := TB_mem (List.mem_of_getElem? (i := 490) (by decide +kernel)) rfl
theorem tw_457 : (Jvm.Cond.code ({ cls := "FlowNetwork", name := "cutCapacity", desc := "(I)I" } : Jvm.MethodName) prog_1_method_17_code (2 : Nat) (Option.some Jvm.ClassFile.FieldType.int)) ∈ TB := TB_mem (List.mem_of_getElem? (i := 491) (by decide +kernel)) rfl
theorem tw_458 : (Jvm.Cond.methodLink "FlowNetwork" (141 : Nat) ({ cls := "FlowNetwork", name := "isCut", desc := "(I)Z" } : Jvm.MethodName)) ∈ TB := TB_mem (List.mem_of_getElem? (i := 492) (by decide +kernel)) rfl
theorem tw_460 : (Jvm.Cond.instanceMethod ({ cls := "FlowNetwork", name := "isCut", desc := "(I)Z" } : Jvm.MethodName)) ∈ TB := TB_mem (List.mem_of_getElem? (i := 494) (by decide +kernel)) rfl
theorem tw_461 : (Jvm.Cond.code ({ cls := "FlowNetwork", name := "isCut", desc := "(I)Z" } : Jvm.MethodName) prog_1_method_34_code (2 : Nat) (Option.some Jvm.ClassFile.FieldType.boolean)) ∈ TB := TB_mem (List.mem_of_getElem? (i := 495) (by decide +kernel)) rfl
theorem tn_462 : (Jvm.Cond.methodLinkNest "FlowNetwork" (218 : Nat) ({ cls := "FlowNetwork$Network", name := "allNodes", desc := "()I" } : Jvm.MethodName) "FlowNetwork") ∈ NW := NW_mem (List.mem_of_getElem? (i := 496) (by decide +kernel)) rfl
theorem tw_464 : (Jvm.Cond.instanceMethod ({ cls := "FlowNetwork$Network", name := "allNodes", desc := "()I" } : Jvm.MethodName)) ∈ TB := TB_mem (List.mem_of_getElem? (i := 498) (by decide +kernel)) rfl
theorem tw_465 : (Jvm.Cond.code ({ cls := "FlowNetwork$Network", name := "allNodes", desc := "()I" } : Jvm.MethodName) prog_6_method_6_code (1 : Nat) (Option.some Jvm.ClassFile.FieldType.int)) ∈ TB := TB_mem (List.mem_of_getElem? (i := 499) (by decide +kernel)) rfl
theorem tw_466 : (Jvm.Cond.methodLink "FlowNetwork" (173 : Nat) ({ cls := "FlowNetwork", name := "contains", desc := "(II)Z" } : Jvm.MethodName)) ∈ TB := TB_mem (List.mem_of_getElem? (i := 500) (by decide +kernel)) rfl
theorem tw_467 : (Jvm.Cond.static ({ cls := "FlowNetwork", name := "contains", desc := "(II)Z" } : Jvm.MethodName)) ∈ TB := TB_mem (List.mem_of_getElem? (i := 501) (by decide +kernel)) rfl
theorem tw_468 : (Jvm.Cond.code ({ cls := "FlowNetwork", name := "contains", desc := "(II)Z" } : Jvm.MethodName) prog_1_method_37_code (2 : Nat) (Option.some Jvm.ClassFile.FieldType.boolean)) ∈ TB := TB_mem (List.mem_of_getElem? (i := 502) (by decide +kernel)) rfl
theorem tn_470 : (Jvm.Cond.methodLinkNest "FlowNetwork" (124 : Nat) ({ cls := "FlowNetwork$Flow", name := "capacityOut", desc := "(I)I" } : Jvm.MethodName) "FlowNetwork") ∈ NW := NW_mem (List.mem_of_getElem? (i := 504) (by decide +kernel)) rfl
theorem tw_472 : (Jvm.Cond.instanceMethod ({ cls := "FlowNetwork$Flow", name := "capacityOut", desc := "(I)I" } : Jvm.MethodName)) ∈ TB := TB_mem (List.mem_of_getElem? (i := 506) (by decide +kernel)) rfl
theorem tw_473 : (Jvm.Cond.code ({ cls := "FlowNetwork$Flow", name := "capacityOut", desc := "(I)I" } : Jvm.MethodName) prog_3_method_8_code (4 : Nat) (Option.some Jvm.ClassFile.FieldType.int)) ∈ TB := TB_mem (List.mem_of_getElem? (i := 507) (by decide +kernel)) rfl
theorem tn_474 : (Jvm.Cond.methodLinkNest "FlowNetwork$Flow" (47 : Nat) ({ cls := "FlowNetwork", name := "contains", desc := "(II)Z" } : Jvm.MethodName) "FlowNetwork") ∈ NW := NW_mem (List.mem_of_getElem? (i := 508) (by decide +kernel)) rfl
theorem tw_475 : (Jvm.Cond.methodLink "FlowNetworkLaw" (62 : Nat) ({ cls := "FlowNetwork", name := "smallestCut", desc := "()I" } : Jvm.MethodName)) ∈ TB := TB_mem (List.mem_of_getElem? (i := 509) (by decide +kernel)) rfl
theorem tw_476 : (Jvm.Cond.instanceMethod ({ cls := "FlowNetwork", name := "smallestCut", desc := "()I" } : Jvm.MethodName)) ∈ TB := TB_mem (List.mem_of_getElem? (i := 510) (by decide +kernel)) rfl
theorem tw_477 : (Jvm.Cond.selects "FlowNetwork" ({ cls := "FlowNetwork", name := "smallestCut", desc := "()I" } : Jvm.MethodName) ({ cls := "FlowNetwork", name := "smallestCut", desc := "()I" } : Jvm.MethodName)) ∈ TB := TB_mem (List.mem_of_getElem? (i := 511) (by decide +kernel)) rfl
theorem tw_478 : (Jvm.Cond.code ({ cls := "FlowNetwork", name := "smallestCut", desc := "()I" } : Jvm.MethodName) prog_1_method_18_code (1 : Nat) (Option.some Jvm.ClassFile.FieldType.int)) ∈ TB := TB_mem (List.mem_of_getElem? (i := 512) (by decide +kernel)) rfl
theorem tn_479 : (Jvm.Cond.methodLinkNest "FlowNetwork" (150 : Nat) ({ cls := "FlowNetwork$MaximumFlow", name := "smallestMask", desc := "()I" } : Jvm.MethodName) "FlowNetwork") ∈ NW := NW_mem (List.mem_of_getElem? (i := 513) (by decide +kernel)) rfl
theorem tw_481 : (Jvm.Cond.instanceMethod ({ cls := "FlowNetwork$MaximumFlow", name := "smallestMask", desc := "()I" } : Jvm.MethodName)) ∈ TB := TB_mem (List.mem_of_getElem? (i := 515) (by decide +kernel)) rfl
theorem tw_482 : (Jvm.Cond.code ({ cls := "FlowNetwork$MaximumFlow", name := "smallestMask", desc := "()I" } : Jvm.MethodName) prog_5_method_9_code (1 : Nat) (Option.some Jvm.ClassFile.FieldType.int)) ∈ TB := TB_mem (List.mem_of_getElem? (i := 516) (by decide +kernel)) rfl
theorem tn_483 : (Jvm.Cond.methodLinkNest "FlowNetwork$MaximumFlow" (84 : Nat) ({ cls := "FlowNetwork$Flow", name := "reachableFrom", desc := "(I)I" } : Jvm.MethodName) "FlowNetwork") ∈ NW := NW_mem (List.mem_of_getElem? (i := 517) (by decide +kernel)) rfl
theorem tw_485 : (Jvm.Cond.instanceMethod ({ cls := "FlowNetwork$Flow", name := "reachableFrom", desc := "(I)I" } : Jvm.MethodName)) ∈ TB := TB_mem (List.mem_of_getElem? (i := 519) (by decide +kernel)) rfl
theorem tw_486 : (Jvm.Cond.code ({ cls := "FlowNetwork$Flow", name := "reachableFrom", desc := "(I)I" } : Jvm.MethodName) prog_3_method_6_code (5 : Nat) (Option.some Jvm.ClassFile.FieldType.int)) ∈ TB := TB_mem (List.mem_of_getElem? (i := 520) (by decide +kernel)) rfl
theorem tw_487 : (Jvm.Cond.methodLink "FlowNetwork$Flow" (37 : Nat) ({ cls := "FlowNetwork$Flow", name := "withNeighbours", desc := "(I)I" } : Jvm.MethodName)) ∈ TB := TB_mem (List.mem_of_getElem? (i := 521) (by decide +kernel)) rfl
theorem tw_489 : (Jvm.Cond.instanceMethod ({ cls := "FlowNetwork$Flow", name := "withNeighbours", desc := "(I)I" } : Jvm.MethodName)) ∈ TB := TB_mem (List.mem_of_getElem? (i := 523) (by decide +kernel)) rfl
theorem tw_490 : (Jvm.Cond.code ({ cls := "FlowNetwork$Flow", name := "withNeighbours", desc := "(I)I" } : Jvm.MethodName) prog_3_method_7_code (6 : Nat) (Option.some Jvm.ClassFile.FieldType.int)) ∈ TB := TB_mem (List.mem_of_getElem? (i := 524) (by decide +kernel)) rfl
theorem tw_491 : (Jvm.Cond.methodLink "FlowNetwork$Flow" (51 : Nat) ({ cls := "FlowNetwork$Flow", name := "room", desc := "(II)I" } : Jvm.MethodName)) ∈ TB := TB_mem (List.mem_of_getElem? (i := 525) (by decide +kernel)) rfl
theorem tw_492 : (Jvm.Cond.methodLink "FlowNetworkLaw" (65 : Nat) ({ cls := "FlowNetwork", name := "greatestCut", desc := "()I" } : Jvm.MethodName)) ∈ TB := TB_mem (List.mem_of_getElem? (i := 526) (by decide +kernel)) rfl
theorem tw_493 : (Jvm.Cond.instanceMethod ({ cls := "FlowNetwork", name := "greatestCut", desc := "()I" } : Jvm.MethodName)) ∈ TB := TB_mem (List.mem_of_getElem? (i := 527) (by decide +kernel)) rfl
theorem tw_494 : (Jvm.Cond.selects "FlowNetwork" ({ cls := "FlowNetwork", name := "greatestCut", desc := "()I" } : Jvm.MethodName) ({ cls := "FlowNetwork", name := "greatestCut", desc := "()I" } : Jvm.MethodName)) ∈ TB := TB_mem (List.mem_of_getElem? (i := 528) (by decide +kernel)) rfl
theorem tw_495 : (Jvm.Cond.code ({ cls := "FlowNetwork", name := "greatestCut", desc := "()I" } : Jvm.MethodName) prog_1_method_19_code (1 : Nat) (Option.some Jvm.ClassFile.FieldType.int)) ∈ TB := TB_mem (List.mem_of_getElem? (i := 529) (by decide +kernel)) rfl
theorem tn_496 : (Jvm.Cond.methodLinkNest "FlowNetwork" (153 : Nat) ({ cls := "FlowNetwork$MaximumFlow", name := "greatestMask", desc := "()I" } : Jvm.MethodName) "FlowNetwork") ∈ NW := NW_mem (List.mem_of_getElem? (i := 530) (by decide +kernel)) rfl
theorem tw_498 : (Jvm.Cond.instanceMethod ({ cls := "FlowNetwork$MaximumFlow", name := "greatestMask", desc := "()I" } : Jvm.MethodName)) ∈ TB := TB_mem (List.mem_of_getElem? (i := 532) (by decide +kernel)) rfl
theorem tw_499 : (Jvm.Cond.code ({ cls := "FlowNetwork$MaximumFlow", name := "greatestMask", desc := "()I" } : Jvm.MethodName) prog_5_method_10_code (3 : Nat) (Option.some Jvm.ClassFile.FieldType.int)) ∈ TB := TB_mem (List.mem_of_getElem? (i := 533) (by decide +kernel)) rfl
theorem tn_500 : (Jvm.Cond.methodLinkNest "FlowNetwork$MaximumFlow" (91 : Nat) ({ cls := "FlowNetwork", name := "contains", desc := "(II)Z" } : Jvm.MethodName) "FlowNetwork") ∈ NW := NW_mem (List.mem_of_getElem? (i := 534) (by decide +kernel)) rfl
theorem tw_501 : (Jvm.Cond.methodLink "FlowNetworkLaw" (21 : Nat) ({ cls := "FlowNetworkLaw", name := "below", desc := "(II)I" } : Jvm.MethodName)) ∈ TB := TB_mem (List.mem_of_getElem? (i := 535) (by decide +kernel)) rfl
theorem tw_502 : (Jvm.Cond.static ({ cls := "FlowNetworkLaw", name := "below", desc := "(II)I" } : Jvm.MethodName)) ∈ TB := TB_mem (List.mem_of_getElem? (i := 536) (by decide +kernel)) rfl
theorem tw_503 : (Jvm.Cond.code ({ cls := "FlowNetworkLaw", name := "below", desc := "(II)I" } : Jvm.MethodName) method_2_code (2 : Nat) (Option.some Jvm.ClassFile.FieldType.int)) ∈ TB := TB_mem (List.mem_of_getElem? (i := 537) (by decide +kernel)) rfl
theorem tw_504 : (Jvm.Cond.constant "FlowNetworkLaw" (7 : Nat) (2147483647 : Int32)) ∈ TB := TB_mem (List.mem_of_getElem? (i := 538) (by decide +kernel)) rfl
theorem tw_505 : (Jvm.Cond.methodLink "FlowNetworkLaw" (15 : Nat) ({ cls := "FlowNetworkLaw", name := "cell", desc := "([II)I" } : Jvm.MethodName)) ∈ TB := TB_mem (List.mem_of_getElem? (i := 539) (by decide +kernel)) rfl
theorem tw_506 : (Jvm.Cond.static ({ cls := "FlowNetworkLaw", name := "cell", desc := "([II)I" } : Jvm.MethodName)) ∈ TB := TB_mem (List.mem_of_getElem? (i := 540) (by decide +kernel)) rfl
theorem tw_507 : (Jvm.Cond.code ({ cls := "FlowNetworkLaw", name := "cell", desc := "([II)I" } : Jvm.MethodName) method_3_code (2 : Nat) (Option.some Jvm.ClassFile.FieldType.int)) ∈ TB := TB_mem (List.mem_of_getElem? (i := 541) (by decide +kernel)) rfl
theorem tw_508 : (Jvm.Cond.constant "FlowNetworkLaw" (8 : Nat) (790386105 : Int32)) ∈ TB := TB_mem (List.mem_of_getElem? (i := 542) (by decide +kernel)) rfl
theorem tw_509 : (Jvm.Cond.methodLink "FlowNetworkLaw" (45 : Nat) ({ cls := "FlowNetworkLaw", name := "build", desc := "(LFlowNetwork;[III[I[I[II)Z" } : Jvm.MethodName)) ∈ TB := TB_mem (List.mem_of_getElem? (i := 543) (by decide +kernel)) rfl
theorem tw_510 : (Jvm.Cond.static ({ cls := "FlowNetworkLaw", name := "build", desc := "(LFlowNetwork;[III[I[I[II)Z" } : Jvm.MethodName)) ∈ TB := TB_mem (List.mem_of_getElem? (i := 544) (by decide +kernel)) rfl
theorem tw_511 : (Jvm.Cond.code ({ cls := "FlowNetworkLaw", name := "build", desc := "(LFlowNetwork;[III[I[I[II)Z" } : Jvm.MethodName) method_4_code (10 : Nat) (Option.some Jvm.ClassFile.FieldType.boolean)) ∈ TB := TB_mem (List.mem_of_getElem? (i := 545) (by decide +kernel)) rfl
theorem tw_512 : (Jvm.Cond.methodLink "FlowNetworkLaw" (9 : Nat) ({ cls := "FlowNetwork", name := "addNode", desc := "()I" } : Jvm.MethodName)) ∈ TB := TB_mem (List.mem_of_getElem? (i := 546) (by decide +kernel)) rfl
theorem tw_513 : (Jvm.Cond.instanceMethod ({ cls := "FlowNetwork", name := "addNode", desc := "()I" } : Jvm.MethodName)) ∈ TB := TB_mem (List.mem_of_getElem? (i := 547) (by decide +kernel)) rfl
theorem tw_514 : (Jvm.Cond.selects "FlowNetwork" ({ cls := "FlowNetwork", name := "addNode", desc := "()I" } : Jvm.MethodName) ({ cls := "FlowNetwork", name := "addNode", desc := "()I" } : Jvm.MethodName)) ∈ TB := TB_mem (List.mem_of_getElem? (i := 548) (by decide +kernel)) rfl
theorem tw_515 : (Jvm.Cond.code ({ cls := "FlowNetwork", name := "addNode", desc := "()I" } : Jvm.MethodName) prog_1_method_2_code (1 : Nat) (Option.some Jvm.ClassFile.FieldType.int)) ∈ TB := TB_mem (List.mem_of_getElem? (i := 549) (by decide +kernel)) rfl
theorem tn_517 : (Jvm.Cond.methodLinkNest "FlowNetwork" (53 : Nat) ({ cls := "FlowNetwork$Network", name := "makeNode", desc := "()I" } : Jvm.MethodName) "FlowNetwork") ∈ NW := NW_mem (List.mem_of_getElem? (i := 551) (by decide +kernel)) rfl
theorem tw_519 : (Jvm.Cond.instanceMethod ({ cls := "FlowNetwork$Network", name := "makeNode", desc := "()I" } : Jvm.MethodName)) ∈ TB := TB_mem (List.mem_of_getElem? (i := 553) (by decide +kernel)) rfl
theorem tw_520 : (Jvm.Cond.code ({ cls := "FlowNetwork$Network", name := "makeNode", desc := "()I" } : Jvm.MethodName) prog_6_method_2_code (1 : Nat) (Option.some Jvm.ClassFile.FieldType.int)) ∈ TB := TB_mem (List.mem_of_getElem? (i := 554) (by decide +kernel)) rfl
theorem tw_521 : (Jvm.Cond.methodLink "FlowNetworkLaw" (25 : Nat) ({ cls := "FlowNetwork", name := "addArc", desc := "(III)I" } : Jvm.MethodName)) ∈ TB := TB_mem (List.mem_of_getElem? (i := 555) (by decide +kernel)) rfl
theorem tw_522 : (Jvm.Cond.instanceMethod ({ cls := "FlowNetwork", name := "addArc", desc := "(III)I" } : Jvm.MethodName)) ∈ TB := TB_mem (List.mem_of_getElem? (i := 556) (by decide +kernel)) rfl
theorem tw_523 : (Jvm.Cond.selects "FlowNetwork" ({ cls := "FlowNetwork", name := "addArc", desc := "(III)I" } : Jvm.MethodName) ({ cls := "FlowNetwork", name := "addArc", desc := "(III)I" } : Jvm.MethodName)) ∈ TB := TB_mem (List.mem_of_getElem? (i := 557) (by decide +kernel)) rfl
theorem tw_524 : (Jvm.Cond.code ({ cls := "FlowNetwork", name := "addArc", desc := "(III)I" } : Jvm.MethodName) prog_1_method_3_code (5 : Nat) (Option.some Jvm.ClassFile.FieldType.int)) ∈ TB := TB_mem (List.mem_of_getElem? (i := 558) (by decide +kernel)) rfl
theorem tn_526 : (Jvm.Cond.methodLinkNest "FlowNetwork" (73 : Nat) ({ cls := "FlowNetwork$Network", name := "makeArc", desc := "(II)I" } : Jvm.MethodName) "FlowNetwork") ∈ NW := NW_mem (List.mem_of_getElem? (i := 560) (by decide +kernel)) rfl
theorem tw_528 : (Jvm.Cond.instanceMethod ({ cls := "FlowNetwork$Network", name := "makeArc", desc := "(II)I" } : Jvm.MethodName)) ∈ TB := TB_mem (List.mem_of_getElem? (i := 562) (by decide +kernel)) rfl
theorem tw_529 : (Jvm.Cond.code ({ cls := "FlowNetwork$Network", name := "makeArc", desc := "(II)I" } : Jvm.MethodName) prog_6_method_3_code (4 : Nat) (Option.some Jvm.ClassFile.FieldType.int)) ∈ TB := TB_mem (List.mem_of_getElem? (i := 563) (by decide +kernel)) rfl
theorem tw_530 : (Jvm.Cond.methodLink "FlowNetwork$Network" (33 : Nat) ({ cls := "FlowNetwork$Network", name := "attach", desc := "(II)V" } : Jvm.MethodName)) ∈ TB := TB_mem (List.mem_of_getElem? (i := 564) (by decide +kernel)) rfl
theorem tw_532 : (Jvm.Cond.instanceMethod ({ cls := "FlowNetwork$Network", name := "attach", desc := "(II)V" } : Jvm.MethodName)) ∈ TB := TB_mem (List.mem_of_getElem? (i := 566) (by decide +kernel)) rfl
theorem tw_533 : (Jvm.Cond.code ({ cls := "FlowNetwork$Network", name := "attach", desc := "(II)V" } : Jvm.MethodName) prog_6_method_4_code (3 : Nat) (Option.none : Option Jvm.ClassFile.FieldType)) ∈ TB := TB_mem (List.mem_of_getElem? (i := 567) (by decide +kernel)) rfl
theorem tw_534 : (Jvm.Cond.methodLink "FlowNetworkLaw" (35 : Nat) ({ cls := "FlowNetworkLaw", name := "cutCapacity", desc := "(I[I[I[I)I" } : Jvm.MethodName)) ∈ TB := TB_mem (List.mem_of_getElem? (i := 568) (by decide +kernel)) rfl
theorem tw_535 : (Jvm.Cond.static ({ cls := "FlowNetworkLaw", name := "cutCapacity", desc := "(I[I[I[I)I" } : Jvm.MethodName)) ∈ TB := TB_mem (List.mem_of_getElem? (i := 569) (by decide +kernel)) rfl
theorem tw_536 : (Jvm.Cond.code ({ cls := "FlowNetworkLaw", name := "cutCapacity", desc := "(I[I[I[I)I" } : Jvm.MethodName) method_5_code (6 : Nat) (Option.some Jvm.ClassFile.FieldType.int)) ∈ TB := TB_mem (List.mem_of_getElem? (i := 570) (by decide +kernel)) rfl
theorem tw_537 : (Jvm.Cond.methodLink "FlowNetworkLaw" (39 : Nat) ({ cls := "java/lang/Math", name := "min", desc := "(II)I" } : Jvm.MethodName)) ∈ TB := TB_mem (List.mem_of_getElem? (i := 571) (by decide +kernel)) rfl
theorem tw_538 : (Jvm.Cond.constant "FlowNetworkLaw" (52 : Nat) (1000000 : Int32)) ∈ TB := TB_mem (List.mem_of_getElem? (i := 572) (by decide +kernel)) rfl
theorem tw_539 : (Jvm.Cond.constantDouble "FlowNetworkLaw" (53 : Nat) (4611686018427387904 : UInt64)) ∈ TB := TB_mem (List.mem_of_getElem? (i := 573) (by decide +kernel)) rfl
theorem tw_540 : (Jvm.Cond.sameMethod "java/lang/Throwable" "java/lang/Throwable" "fillInStackTrace" "(I)Ljava/lang/Throwable;") ∈ TB := TB_mem (List.mem_of_getElem? (i := 574) (by decide +kernel)) rfl
theorem ti_0 : ∀ w ∈ u_ws RX0 TX0 3, w ∈ TB := fun w h => TB_mem ((goodIn_of (big := lw_tbl) (u_ws RX0 TX0 3) (by decide +kernel)) w h).1 ((List.all_eq_true.mp (by decide +kernel : (u_ws RX0 TX0 3).all goodWord = true)) w h)
theorem ti_1 : ∀ w ∈ u_ws RX1 TX1 3, w ∈ TB := fun w h => TB_mem ((goodIn_of (big := lw_tbl) (u_ws RX1 TX1 3) (by decide +kernel)) w h).1 ((List.all_eq_true.mp (by decide +kernel : (u_ws RX1 TX1 3).all goodWord = true)) w h)
theorem ti_2 : ∀ w ∈ u_ws RX2 TX2 4, w ∈ TB := fun w h => TB_mem ((goodIn_of (big := lw_tbl) (u_ws RX2 TX2 4) (by decide +kernel)) w h).1 ((List.all_eq_true.mp (by decide +kernel : (u_ws RX2 TX2 4).all goodWord = true)) w h)
theorem ti_3 : ∀ w ∈ u_ws RX3 TX3 6, w ∈ TB := fun w h => TB_mem ((goodIn_of (big := lw_tbl) (u_ws RX3 TX3 6) (by decide +kernel)) w h).1 ((List.all_eq_true.mp (by decide +kernel : (u_ws RX3 TX3 6).all goodWord = true)) w h)
theorem ti_4 : ∀ w ∈ u_ws RX4 TX4 6, w ∈ TB := fun w h => TB_mem ((goodIn_of (big := lw_tbl) (u_ws RX4 TX4 6) (by decide +kernel)) w h).1 ((List.all_eq_true.mp (by decide +kernel : (u_ws RX4 TX4 6).all goodWord = true)) w h)
theorem ti_5 : ∀ w ∈ u_ws RX5 TX5 7, w ∈ TB := fun w h => TB_mem ((goodIn_of (big := lw_tbl) (u_ws RX5 TX5 7) (by decide +kernel)) w h).1 ((List.all_eq_true.mp (by decide +kernel : (u_ws RX5 TX5 7).all goodWord = true)) w h)
theorem ti_6 : ∀ w ∈ u_ws RX6 TX6 5, w ∈ TB := fun w h => TB_mem ((goodIn_of (big := lw_tbl) (u_ws RX6 TX6 5) (by decide +kernel)) w h).1 ((List.all_eq_true.mp (by decide +kernel : (u_ws RX6 TX6 5).all goodWord = true)) w h)
end
section
section ZM
variable {p : Program} {l : Launch} {e : Env} {R : Room} {s : State} {m : MethodId} {args : Array Value} {below : List Frame} {meth : Method} {c : Code} {D : va_G} {cs : Nat → ClassId} {ids : List Ix} {ad : Ix → Nat} {A : Nat → Prop} {H0 : Heap} {nL : Nat} {Q : State → Prop} {mc ms : Nat} {σ : Mem} {pc : Nat} {lo : List (Option Value)} {st : List Value} {cc : ByteArray} {own : String}
theorem pic_one {H : Heap} {o : Ix} (h : Pic D cs ids ad σ H) (ho : o ∈ ids) {x : va_E} (he : enc cs ad σ o = x) : va_P D vwCl [(ad o, x)] H := by
  intro k q hq
  cases k with
  | zero => cases hq; rw [← he]; exact h o ho
  | succ k => simp at hq
abbrev wlist (cs : Nat → ClassId) (ids : List Ix) (ad : Ix → Nat) (σ : Mem) : va_W := ids.map (fun i => (ad i, enc cs ad σ i))
theorem pic_P {H : Heap} (h : Pic D cs ids ad σ H) : va_P D vwCl (wlist cs ids ad σ) H := by
  intro k q hq
  rw [List.getElem?_map] at hq
  cases hi : ids[k]? with
  | none => rw [hi] at hq; cases hq
  | some i => rw [hi] at hq; cases hq; exact h i (List.mem_of_getElem? hi)
theorem nd_at {l : List Ix} (h : l.Nodup) : ∀ {i j : Nat} {x : Ix}, l[i]? = some x → l[j]? = some x → i = j := by
  intro i j x hi hj
  obtain ⟨h1, h2⟩ := List.getElem?_eq_some_iff.mp hi
  obtain ⟨h3, h4⟩ := List.getElem?_eq_some_iff.mp hj
  exact (List.getElem_inj h).mp (h2.trans h4.symm)
theorem pic_D (hnd : ids.Nodup) (hap : Apart ids ad) (hA : ∀ i ∈ ids, A (ad i)) : va_D A (wlist cs ids ad σ) := by
  have key : ∀ (k : Nat) (q : Nat × va_E), (wlist cs ids ad σ)[k]? = some q → ∃ i, ids[k]? = some i ∧ q.1 = ad i := by
    intro k q hq
    rw [List.getElem?_map] at hq
    cases hi : ids[k]? with
    | none => rw [hi] at hq; cases hq
    | some i => rw [hi] at hq; cases hq; exact ⟨i, rfl, rfl⟩
  refine ⟨fun i j x y hi hj hxy => ?_, fun k q hk => ?_⟩
  · obtain ⟨a, h1, h2⟩ := key i x hi
    obtain ⟨b, h3, h4⟩ := key j y hj
    have hab : a = b := hap a (List.mem_of_getElem? h1) b (List.mem_of_getElem? h3) (by rw [← h2, ← h4]; exact hxy)
    subst hab
    exact nd_at hnd h1 h3
  · obtain ⟨a, h1, h2⟩ := key k q hk
    rw [h2]
    exact hA a (List.mem_of_getElem? h1)
theorem pic_set {τ : Mem} {H : Heap} {o : Ix} {q0 : Nat} {x : va_E} (hnd : ids.Nodup) (hq0 : ids[q0]? = some o) (hP : va_P D vwCl ((wlist cs ids ad σ).set q0 (ad o, x)) H) (he : enc cs ad τ o = x) (hr : ∀ q, owner q ≠ o → σ q = τ q) : Pic D cs ids ad τ H := by
  intro i hi
  obtain ⟨k, hk⟩ := List.getElem?_of_mem hi
  have hl : k < (wlist cs ids ad σ).length := by
    rw [List.length_map]
    exact (List.getElem?_eq_some_iff.mp hk).1
  by_cases hio : i = o
  · subst hio
    have : k = q0 := nd_at hnd hk hq0
    subst this
    have h1 := hP k (ad i, x) (by rw [List.getElem?_set_self hl])
    rw [he]
    exact h1
  · have hkq : k ≠ q0 := fun e => hio (by rw [e, hq0] at hk; exact (Option.some.inj hk).symm)
    have h1 := hP k (ad i, enc cs ad σ i) (by rw [List.getElem?_set_ne (Ne.symm hkq), List.getElem?_map, hk]; rfl)
    rw [← enc_reads (σ := σ) (τ := τ) (i := i) (fun q hq => hr q (by rw [hq]; exact hio))]
    exact h1
theorem ids_place {o : Ix} (ho : o ∈ ids) : ∃ q0 : Nat, ids[q0]? = some o ∧ (wlist cs ids ad σ)[q0]? = some (ad o, enc cs ad σ o) := by
  obtain ⟨k, hk⟩ := List.getElem?_of_mem ho
  exact ⟨k, hk, by rw [List.getElem?_map, hk]; rfl⟩
theorem mset_owner {i o : Ix} {z x : Int} (h : owner i = o) : ∀ q, owner q ≠ o → σ q = mset σ i z x q := fun q hq => (mset_id (fun e => hq (by rw [e]; exact h))).symm
-- fields
theorem zr_get (X : Cx p s m args meth c cc nL own) (K : Kx D cs ids ad A s) {o : Ix} {ref C nm dsc : String} {T : u_T} {N ci k index : Nat} {fs : List Value} {v : Value} (ho : o ∈ ids) (he : enc cs ad σ o = .inr (ci, fs)) (hc : vwCl[ci]? = some (C, T, N)) (hin : ∀ w ∈ u_ws C T N, w ∈ TB) (hk : k < N) (hT : T k = (ref, nm, dsc, (T k).2.2.2)) (hw : Cond.fieldLink own index ref nm dsc ∈ TB) (hv : fs[k]? = some v) (d : decode cc pc = .ok (.getfield index, 3))
    (kk : Wx p l e R s m args below meth c D cs ids ad A H0 nL Q mc ms σ (pc + 3) lo (v :: st)) : Wx p l e R s m args below meth c D cs ids ad A H0 nL Q mc ms σ pc lo (.ref (ad o) :: st) := fun H locs ls hP hS hl => by
  refine va_get (ref := ref) X.1 X.2.1 X.2.2.2.2.1 hin X.2.2.2.1 K.1 (pic_one hP ho he) 0 rfl hc k hk ?_ ?_ hv d (kk H locs ls hP hS hl)
  · rw [hT]; exact X.2.2.2.2.1 _ hw
  · rw [hT]; exact fun _ h => h
theorem zr_getN (X : Cx p s m args meth c cc nL own) (K : Kx D cs ids ad A s) {o : Ix} {ref C nm dsc host : String} {T : u_T} {N ci k index : Nat} {fs : List Value} {v : Value} (ho : o ∈ ids) (he : enc cs ad σ o = .inr (ci, fs)) (hc : vwCl[ci]? = some (C, T, N)) (hin : ∀ w ∈ u_ws C T N, w ∈ TB) (hk : k < N) (hT : T k = (ref, nm, dsc, (T k).2.2.2)) (hw : Cond.fieldLinkNest own index ref nm dsc host ∈ NW) (hv : fs[k]? = some v) (d : decode cc pc = .ok (.getfield index, 3))
    (kk : Wx p l e R s m args below meth c D cs ids ad A H0 nL Q mc ms σ (pc + 3) lo (v :: st)) : Wx p l e R s m args below meth c D cs ids ad A H0 nL Q mc ms σ pc lo (.ref (ad o) :: st) := fun H locs ls hP hS hl => by
  refine va_getN (ref := ref) (host := host) X.1 X.2.1 X.2.2.2.2.1 hin X.2.2.2.1 K.1 (pic_one hP ho he) 0 rfl hc k hk ?_ ?_ hv d (kk H locs ls hP hS hl)
  · rw [hT]; exact va_Nw.use rfl (K.2.2.2.2.1 _ hw)
  · rw [hT]; exact fun _ h => h
theorem zr_put (X : Cx p s m args meth c cc nL own) (K : Kx D cs ids ad A s) {o q : Ix} {ref C nm dsc : String} {T : u_T} {ty0 : Nat → FieldType} {ty : FieldType} {N ci k index : Nat} {F : Mem → List Value} {x : Int} (ho : o ∈ ids) (he : ∀ τ, enc cs ad τ o = .inr (ci, F τ)) (hF : F (mset σ q 0 x) = (F σ).set k (jI x)) (hq : owner q = o) (hc : vwCl[ci]? = some (C, T, N)) (hin : ∀ w ∈ u_ws C T N, w ∈ TB) (hty : ∀ k, k < N → parseFieldDescriptor (T k).2.2.1 = some (ty0 k)) (hnm : ∀ a, a < N → ∀ b, b < N → a ≠ b → (T a).2.1 ≠ (T b).2.1) (hk : k < N) (hT : T k = (ref, nm, dsc, false)) (hw : Cond.fieldLink own index ref nm dsc ∈ TB) (hd : ty0 k = ty) (hn : narrow ty (jI x) = jI x) (hfit : fits ty (jI x) = true) (hl0 : k < (F σ).length) (d : decode cc pc = .ok (.putfield index, 3))
    (kk : Wx p l e R s m args below meth c D cs ids ad A H0 nL Q mc ms (mset σ q 0 x) (pc + 3) lo st) : Wx p l e R s m args below meth c D cs ids ad A H0 nL Q mc ms σ pc lo (jI x :: .ref (ad o) :: st) := fun H locs ls hP hS hl => by
  obtain ⟨q0, h1, h2⟩ := ids_place (cs := cs) (ad := ad) (σ := σ) ho
  rw [he] at h2
  refine va_put (ref := ref) X.1 X.2.1 X.2.2.2.2.1 hin ty0 hty hnm X.2.2.2.1 K.1 (pic_P hP) (pic_D K.2.2.2.1 K.2.1 K.2.2.1) hS q0 h2 hc k hk ?_ ?_ ?_ ((hty k hk).trans (congrArg some hd)) hn hfit hl0 d (fun H1 locs1 hP1 _ hS1 => kk H1 locs1 ls (pic_set K.2.2.2.1 h1 hP1 (by rw [he, hF]) (mset_owner hq)) hS1 hl)
  · rw [hT]; exact X.2.2.2.2.1 _ hw
  · rw [hT]; exact fun _ h => h
  · rw [hT]
theorem zr_putN (X : Cx p s m args meth c cc nL own) (K : Kx D cs ids ad A s) {o q : Ix} {ref C nm dsc host : String} {T : u_T} {ty0 : Nat → FieldType} {ty : FieldType} {N ci k index : Nat} {F : Mem → List Value} {x : Int} (ho : o ∈ ids) (he : ∀ τ, enc cs ad τ o = .inr (ci, F τ)) (hF : F (mset σ q 0 x) = (F σ).set k (jI x)) (hq : owner q = o) (hc : vwCl[ci]? = some (C, T, N)) (hin : ∀ w ∈ u_ws C T N, w ∈ TB) (hty : ∀ k, k < N → parseFieldDescriptor (T k).2.2.1 = some (ty0 k)) (hnm : ∀ a, a < N → ∀ b, b < N → a ≠ b → (T a).2.1 ≠ (T b).2.1) (hk : k < N) (hT : T k = (ref, nm, dsc, false)) (hw : Cond.fieldLinkNest own index ref nm dsc host ∈ NW) (hd : ty0 k = ty) (hn : narrow ty (jI x) = jI x) (hfit : fits ty (jI x) = true) (hl0 : k < (F σ).length) (d : decode cc pc = .ok (.putfield index, 3))
    (kk : Wx p l e R s m args below meth c D cs ids ad A H0 nL Q mc ms (mset σ q 0 x) (pc + 3) lo st) : Wx p l e R s m args below meth c D cs ids ad A H0 nL Q mc ms σ pc lo (jI x :: .ref (ad o) :: st) := fun H locs ls hP hS hl => by
  obtain ⟨q0, h1, h2⟩ := ids_place (cs := cs) (ad := ad) (σ := σ) ho
  rw [he] at h2
  refine va_putN (ref := ref) (host := host) X.1 X.2.1 X.2.2.2.2.1 hin ty0 hty hnm X.2.2.2.1 K.1 (pic_P hP) (pic_D K.2.2.2.1 K.2.1 K.2.2.1) hS q0 h2 hc k hk ?_ ?_ ?_ ((hty k hk).trans (congrArg some hd)) hn hfit hl0 d (fun H1 locs1 hP1 _ hS1 => kk H1 locs1 ls (pic_set K.2.2.2.1 h1 hP1 (by rw [he, hF]) (mset_owner hq)) hS1 hl)
  · rw [hT]; exact va_Nw.use rfl (K.2.2.2.2.1 _ hw)
  · rw [hT]; exact fun _ h => h
  · rw [hT]
-- arrays
theorem zr_iald (X : Cx p s m args meth c cc nL own) (K : Kx D cs ids ad A s) {i : Ix} {n : Nat} {z : Int} (hi : i ∈ ids) (he : enc cs ad σ i = arI cs σ i n) (hn : n < 2147483648) (h0 : 0 ≤ z ∧ z < n) (d : decode cc pc = .ok (.iaload, 1)) (kk : Wx p l e R s m args below meth c D cs ids ad A H0 nL Q mc ms σ (pc + 1) lo (jI (σ i z) :: st)) : Wx p l e R s m args below meth c D cs ids ad A H0 nL Q mc ms σ pc lo (jI z :: .ref (ad i) :: st) := fun H locs ls hP hS hl => by
  refine va_iald X.1 X.2.1 K.1 (pic_one hP hi he) 0 0 rfl rfl (iI_in h0.1 h0.2 hn) d ?_
  rw [iI_clamp h0.1 (by omega), Int.toNat_of_nonneg h0.1]
  exact kk H locs ls hP hS hl
theorem arI_put {i : Ix} {n : Nat} {z x : Int} (h0 : 0 ≤ z) (hz : z < 2147483648) : arI cs (mset σ i z x) i n = .inl (cs 0, n, .inl (upd (fun j => iI (σ i (j : Int))) (iI z).toNatClampNeg (iI x))) := by
  rw [iI_clamp h0 hz]
  show (Sum.inl (cs 0, n, Sum.inl _) : va_E) = _
  congr 4
  funext j
  show iI (mset σ i z x i (j : Int)) = upd (fun j => iI (σ i (j : Int))) z.toNat (iI x) j
  rw [mset_at]
  by_cases h : j = z.toNat
  · subst h
    rw [if_pos (Int.toNat_of_nonneg h0)]
    simp [upd]
  · rw [if_neg (by omega)]
    simp [upd, h]
theorem zr_iast (X : Cx p s m args meth c cc nL own) (K : Kx D cs ids ad A s) {i : Ix} {n : Nat} {z x : Int} (hi : i ∈ ids) (he : ∀ τ, enc cs ad τ i = arI cs τ i n) (hq : owner i = i) (hn : n < 2147483648) (h0 : 0 ≤ z ∧ z < n) (d : decode cc pc = .ok (.iastore, 1)) (kk : Wx p l e R s m args below meth c D cs ids ad A H0 nL Q mc ms (mset σ i z x) (pc + 1) lo st) : Wx p l e R s m args below meth c D cs ids ad A H0 nL Q mc ms σ pc lo (jI x :: jI z :: .ref (ad i) :: st) := fun H locs ls hP hS hl => by
  obtain ⟨q0, h1, h2⟩ := ids_place (cs := cs) (ad := ad) (σ := σ) hi
  rw [he] at h2
  exact va_iast X.1 X.2.1 K.1 (pic_P hP) (pic_D K.2.2.2.1 K.2.1 K.2.2.1) hS q0 0 h2 rfl (iI_in h0.1 h0.2 hn) d (fun H1 locs1 hP1 _ hS1 => kk H1 locs1 ls (pic_set K.2.2.2.1 h1 hP1 (by rw [he, arI_put h0.1 (by omega)]) (mset_owner hq)) hS1 hl)
theorem zr_aald (X : Cx p s m args meth c cc nL own) (K : Kx D cs ids ad A s) {i : Ix} {n : Nat} {f : Nat → Nat} {z : Int} (hi : i ∈ ids) (he : enc cs ad σ i = arQ cs n f) (hn : n < 2147483648) (h0 : 0 ≤ z ∧ z < n) (d : decode cc pc = .ok (.aaload, 1)) (kk : Wx p l e R s m args below meth c D cs ids ad A H0 nL Q mc ms σ (pc + 1) lo (.ref (f z.toNat) :: st)) : Wx p l e R s m args below meth c D cs ids ad A H0 nL Q mc ms σ pc lo (jI z :: .ref (ad i) :: st) := fun H locs ls hP hS hl => by
  have hin := iI_in (z := z) h0.1 h0.2 hn
  have hlt : (iI z).toNatClampNeg < n := Nat.not_le.mp fun q => hin (Or.inr q)
  have h1 := hP i hi
  rw [he] at h1
  refine W.aald (v := .ref (f z.toNat)) (ty := .array .int) X.1 X.2.1 h1 ((K.1.2 1 _ rfl).1 n (fun j => va_rf (if j < n then some (f j) else none))) rfl (fun q => by cases q) (by show ¬ (iI z < 0 ∨ (arrV _ _ _).slots.size ≤ _); rw [arrV_size]; exact hin) ?_ rfl rfl d (kk H locs ls hP hS hl)
  show (arrV _ _ _).slots[_]? = _
  rw [arrV_read _ _ hlt]
  show some (va_rf (if (iI z).toNatClampNeg < n then some (f (iI z).toNatClampNeg) else none)) = _
  rw [if_pos hlt, iI_clamp h0.1 (by omega)]
  rfl
theorem zr_alen (X : Cx p s m args meth c cc nL own) (K : Kx D cs ids ad A s) {i : Ix} {n : Nat} (hi : i ∈ ids) (he : enc cs ad σ i = arI cs σ i n) (d : decode cc pc = .ok (.arraylength, 1)) (kk : Wx p l e R s m args below meth c D cs ids ad A H0 nL Q mc ms σ (pc + 1) lo (jI (n : Int) :: st)) : Wx p l e R s m args below meth c D cs ids ad A H0 nL Q mc ms σ pc lo (.ref (ad i) :: st) := fun H locs ls hP hS hl => va_alen X.1 X.2.1 K.1 (pic_one hP hi he) 0 0 rfl rfl (iI_nat n) d (kk H locs ls hP hS hl)
def mcopy (σ : Mem) (a b : Ix) (n : Int) : Mem := fun q j => if q = b ∧ 0 ≤ j ∧ j < n then σ a j else σ q j
theorem mcopy_id {σ : Mem} {a b q : Ix} {n : Int} (h : q ≠ b) : mcopy σ a b n q = σ q := funext fun _ => if_neg fun e => h e.1
theorem mcopy_in {σ : Mem} {a b : Ix} {n j : Int} (h0 : 0 ≤ j) (h1 : j < n) : mcopy σ a b n b j = σ a j := if_pos ⟨rfl, h0, h1⟩
theorem mcopy_out {σ : Mem} {a b : Ix} {n j : Int} (h : j < 0 ∨ n ≤ j) : mcopy σ a b n b j = σ b j := if_neg fun e => by omega
theorem zr_copy (X : Cx p s m args meth c cc nL own) (K : Kx D cs ids ad A s) {i0 i1 : Ix} {n0 n1 index : Nat} {n : Int} (hi0 : i0 ∈ ids) (hi1 : i1 ∈ ids) (he0 : enc cs ad σ i0 = arI cs σ i0 n0) (he1 : ∀ τ, enc cs ad τ i1 = arI cs τ i1 n1) (hq : owner i1 = i1) (hb0 : n0 < 2147483648) (hb1 : n1 < 2147483648) (hn : 0 ≤ n ∧ n ≤ n0 ∧ n ≤ n1) (hw1 : Cond.methodLink own index arraycopyName ∈ TB) (hw2 : Cond.native arraycopyName ∈ TB) (hw3 : Cond.static arraycopyName ∈ TB) (hw4 : Cond.initialized "java/lang/System" ∈ TB) (hR : 1 ≤ R.frames ∧ (st.map fun v => v.category).sum + (nativeFrameWords "java/lang/System" "arraycopy" 5 + 11) ≤ R.locals) (d : decode cc pc = .ok (.invokestatic index, 3)) (kk : Wx p l e R s m args below meth c D cs ids ad A H0 nL Q mc ms (mcopy σ i0 i1 n) (pc + 3) lo st) : Wx p l e R s m args below meth c D cs ids ad A H0 nL Q mc ms σ pc lo (jI n :: jI 0 :: .ref (ad i1) :: jI 0 :: .ref (ad i0) :: st) := fun H locs ls hP hS hl => by
  obtain ⟨q0, g1, g2⟩ := ids_place (cs := cs) (ad := ad) (σ := σ) hi0
  obtain ⟨q1, h1, h2⟩ := ids_place (cs := cs) (ad := ad) (σ := σ) hi1
  rw [he0] at g2
  rw [he1] at h2
  have hc0 : (iI 0).toNatClampNeg = 0 := rfl
  have hcn : (iI n).toNatClampNeg = n.toNat := iI_clamp hn.1 (by omega)
  refine va_copyi X.1 X.2.1 (X.2.2.1.trans hl.1.symm) X.2.2.2.1 (X.2.2.2.2.1 _ hw1) (X.2.2.2.2.1 _ hw2) (X.2.2.2.2.1 _ hw3) (X.2.2.2.2.1 _ hw4) K.1 (pic_P hP) (pic_D K.2.2.2.1 K.2.1 K.2.2.1) hS q0 q1 0 0 g2 h2 rfl rfl rfl (by decide) (by decide) (by rw [iI_0, iI_lt ⟨by omega, by omega⟩ ⟨by omega, by omega⟩]; omega) (by rw [hc0, hcn]; omega) (by rw [hc0, hcn]; omega) (fun _ _ => rfl) hR.1 hR.2 d (fun H1 locs1 hP1 _ hS1 => kk H1 locs1 ls (pic_set K.2.2.2.1 h1 hP1 ?_ (fun q hq' => (mcopy_id (fun e => hq' (by rw [e]; exact hq))).symm)) hS1 hl)
  rw [he1, hc0, hcn]
  show (Sum.inl (cs 0, n1, Sum.inl _) : va_E) = _
  congr 4
  funext j
  show iI (mcopy σ i0 i1 n i1 (j : Int)) = va_cpy (fun j => iI (σ i0 (j : Int))) (fun j => iI (σ i1 (j : Int))) 0 0 n.toNat j
  by_cases h : j < n.toNat
  · rw [mcopy_in (by omega) (by omega), pk_cpy_in (by omega) (by omega)]
    simp
  · rw [mcopy_out (by omega), pk_cpy_out (by omega)]
theorem zr_min (X : Cx p s m args meth c cc nL own) {index : Nat} {x y : Int} (hw1 : Cond.methodLink own index Lib.Math.min.name ∈ TB) (hw2 : Cond.static Lib.Math.min.name ∈ TB) (hw3 : Cond.initialized "java/lang/Math" ∈ TB) (hw4 : Cond.code Lib.Math.min.name Lib.Math.min.code 2 (some .int) ∈ TB) (hR : 1 ≤ R.frames ∧ (st.map fun v => v.category).sum + 13 ≤ R.locals ∧ mc ≤ R.cells ∧ ms ≤ R.slots) (hx : rg x) (hy : rg y) (d : decode cc pc = .ok (.invokestatic index, 3)) (kk : ∀ w : Int, (w = x ∨ w = y) ∧ w ≤ x ∧ w ≤ y → Wx p l e R s m args below meth c D cs ids ad A H0 nL Q mc ms σ (pc + 3) lo (jI w :: st)) : Wx p l e R s m args below meth c D cs ids ad A H0 nL Q mc ms σ pc lo (jI y :: jI x :: st) := fun H locs ls hP hS hl => by
  refine va_mmin X.1 X.2.1 (X.2.2.1.trans hl.1.symm) X.2.2.2.1 (X.2.2.2.2.1 _ hw1) (X.2.2.2.2.1 _ hw2) (X.2.2.2.2.1 _ hw3) (X.2.2.2.2.1 _ hw4) hR.1 hR.2.1 hR.2.2.1 hR.2.2.2 d ?_
  by_cases h : y < x
  · rw [if_pos ((iI_lt hy hx).mpr h)]
    exact kk y ⟨Or.inr rfl, by omega, Int.le_refl y⟩ H locs ls hP hS hl
  · rw [if_neg (fun h1 => h ((iI_lt hy hx).mp h1))]
    exact kk x ⟨Or.inl rfl, Int.le_refl x, by omega⟩ H locs ls hP hS hl
end ZM
end
section
/-! contracts over the world of numbered cells, and their calls -/
def rmm (h mc ms : Nat) : Room := { frames := h, cells := mc, slots := ms, locals := 100 + 28 * h }
abbrev wsy (y : MethodName) (cc : ByteArray) (nL : Nat) (ret : Option FieldType) : List Cond := .code y cc nL ret :: TB
abbrev qI (D : va_G) (cs : Nat → ClassId) (ids : List Ix) (ad : Ix → Nat) (Post : Int → Mem → Prop) : Array Value → State → Outcome → State → Prop := va_Qi (fun r (u : Int × Mem) => r = iI u.1 ∧ Post u.1 u.2) (fun u t => Pic D cs ids ad u.2 t.heap) (Rg ids ad)
abbrev qV (D : va_G) (cs : Nat → ClassId) (ids : List Ix) (ad : Ix → Nat) (Post : Mem → Prop) : Array Value → State → Outcome → State → Prop := va_Qv (fun (u : Mem) => Post u) (fun u t => Pic D cs ids ad u t.heap) (Rg ids ad)
/-- a method that makes nothing and answers with a whole number (or a truth value) -/
def CI (l : Launch) (D : va_G) (cs : Nat → ClassId) (ids : List Ix) (ad : Ix → Nat) (y : MethodName) (cc : ByteArray) (nL : Nat) (ret : FieldType) (h : Nat) (as : List Value) (σ : Mem) (Post : Int → Mem → Prop) : Prop :=
  Met l y (wsy y cc nL (some ret)) (rmm h 0 0) (va_Pc as (fun U => Wo D cs ids ad σ U)) (qI D cs ids ad Post) 0 0 (Rg ids ad)
def CV (l : Launch) (D : va_G) (cs : Nat → ClassId) (ids : List Ix) (ad : Ix → Nat) (y : MethodName) (cc : ByteArray) (nL : Nat) (h : Nat) (as : List Value) (σ : Mem) (Post : Mem → Prop) : Prop :=
  Met l y (wsy y cc nL none) (rmm h 0 0) (va_Pc as (fun U => Wo D cs ids ad σ U)) (qV D cs ids ad Post) 0 0 (Rg ids ad)
theorem CI.of {l : Launch} {D : va_G} {cs : Nat → ClassId} {ids : List Ix} {ad : Ix → Nat} {y : MethodName} {cc : ByteArray} {nL h : Nat} {ret : FieldType} {as : List Value} {σ : Mem} {Post : Int → Mem → Prop} (own : String) (hap : Apart ids ad) (hnd : ids.Nodup) (hy : plainName y.cls = true) (ho : y.cls = own) (hlen : (lg_sl as).length ≤ nL)
    (body : ∀ (p : Program) (e : Env) (s : State) (m : MethodId) (args : Array Value) (below : List Frame) (meth : Method) (c : Code), Cx p s m args meth c cc nL own → Kx D cs ids ad (Rg ids ad) s → meth.sig.returnType = some ret →
      Wx p l e (rmm h 0 0) s m args below meth c D cs ids ad (Rg ids ad) s.heap nL (MQ below (qI D cs ids ad Post) args s 0 0 (Rg ids ad)) 0 0 σ 0 (entryLo as nL) []) : CI l D cs ids ad y cc nL ret h as σ Post := by
  refine Met.ofW (cc := cc) (maxL := nL) (ret := some ret) hy rfl ?_
  intro p e s m args below meth c s₁ B hml hv
  obtain ⟨rfl, hP, hK, hN, hX⟩ := hv
  have hts := atoms_spec (ws := wsy y cc nL (some ret)) B.pre
  have hown : s.vm.findClass own = some m.cls := ho ▸ findClass_of_methodNamed B.named
  rw [lg_entry_eq]
  exact body p e s m as.toArray below meth c ⟨B.exec, B.bytes, hml, hown, fun w hw => hts w (List.mem_cons_of_mem _ hw), B.notSynchronized⟩ ⟨hK, hap, fun i hi => ⟨i, hi, rfl⟩, hnd, hN, hX⟩ B.returns s.heap [] _ hP va_S.rf (lo_entry as hlen)
theorem CV.of {l : Launch} {D : va_G} {cs : Nat → ClassId} {ids : List Ix} {ad : Ix → Nat} {y : MethodName} {cc : ByteArray} {nL h : Nat} {as : List Value} {σ : Mem} {Post : Mem → Prop} (own : String) (hap : Apart ids ad) (hnd : ids.Nodup) (hy : plainName y.cls = true) (ho : y.cls = own) (hlen : (lg_sl as).length ≤ nL)
    (body : ∀ (p : Program) (e : Env) (s : State) (m : MethodId) (args : Array Value) (below : List Frame) (meth : Method) (c : Code), Cx p s m args meth c cc nL own → Kx D cs ids ad (Rg ids ad) s → meth.sig.returnType = none →
      Wx p l e (rmm h 0 0) s m args below meth c D cs ids ad (Rg ids ad) s.heap nL (MQ below (qV D cs ids ad Post) args s 0 0 (Rg ids ad)) 0 0 σ 0 (entryLo as nL) []) : CV l D cs ids ad y cc nL h as σ Post := by
  refine Met.ofW (cc := cc) (maxL := nL) (ret := none) hy rfl ?_
  intro p e s m args below meth c s₁ B hml hv
  obtain ⟨rfl, hP, hK, hN, hX⟩ := hv
  have hts := atoms_spec (ws := wsy y cc nL none) B.pre
  have hown : s.vm.findClass own = some m.cls := ho ▸ findClass_of_methodNamed B.named
  rw [lg_entry_eq]
  exact body p e s m as.toArray below meth c ⟨B.exec, B.bytes, hml, hown, fun w hw => hts w (List.mem_cons_of_mem _ hw), B.notSynchronized⟩ ⟨hK, hap, fun i hi => ⟨i, hi, rfl⟩, hnd, hN, hX⟩ B.returns s.heap [] _ hP va_S.rf (lo_entry as hlen)
theorem CI.mono {l : Launch} {D : va_G} {cs : Nat → ClassId} {ids : List Ix} {ad : Ix → Nat} {y : MethodName} {cc : ByteArray} {nL h : Nat} {ret : FieldType} {as : List Value} {σ : Mem} {Post Post' : Int → Mem → Prop} (hC : CI l D cs ids ad y cc nL ret h as σ Post) (hp : ∀ z τ, Post z τ → Post' z τ) : CI l D cs ids ad y cc nL ret h as σ Post' := by
  intro p e h1 h2 h3 s m args below h4 h5 h6 h7
  obtain ⟨k, o, b1, b2, b3, ⟨⟨⟨r, u, q1, ⟨q2, q3⟩, q4⟩, q5⟩, q6⟩⟩ := hC p e h1 h2 h3 s m args below h4 h5 h6 h7
  exact ⟨k, o, b1, b2, b3, ⟨⟨r, u, q1, ⟨q2, hp _ _ q3⟩, q4⟩, q5⟩, q6⟩
section ZC
variable {p : Program} {l : Launch} {e : Env} {R : Room} {s : State} {m : MethodId} {args : Array Value} {below : List Frame} {meth : Method} {c : Code} {D : va_G} {cs : Nat → ClassId} {ids : List Ix} {ad : Ix → Nat} {A : Nat → Prop} {H0 : Heap} {nL : Nat} {Q : State → Prop} {mc ms : Nat} {σ : Mem} {pc : Nat} {lo : List (Option Value)} {st : List Value} {cc : ByteArray} {own : String}
theorem zr_iret (X : Cx p s m args meth c cc nL own) {Post : Int → Mem → Prop} {z : Int} (hr : meth.sig.returnType = some .int) (d : decode cc pc = .ok (.ireturn, 1)) (h : Post z σ) : Wx p l e R s m args below meth c D cs ids ad (Rg ids ad) s.heap nL (MQ below (qI D cs ids ad Post) args s 0 0 (Rg ids ad)) 0 0 σ pc lo [jI z] := fun H locs ls hP hS hl =>
  W.iret X.1 X.2.1 hr (fun t ht _ => ⟨⟨iI z, (z, σ), rfl, ⟨rfl, h⟩, (by show Pic D cs ids ad σ t.heap; rw [ht]; exact hP)⟩, hS.F ht⟩) hS.2.2 d X.2.2.2.2.2
theorem zr_zret (X : Cx p s m args meth c cc nL own) {Post : Int → Mem → Prop} {z : Int} (hr : meth.sig.returnType = some .boolean) (d : decode cc pc = .ok (.ireturn, 1)) (hz : z = 0 ∨ z = 1) (h : Post z σ) : Wx p l e R s m args below meth c D cs ids ad (Rg ids ad) s.heap nL (MQ below (qI D cs ids ad Post) args s 0 0 (Rg ids ad)) 0 0 σ pc lo [jI z] := fun H locs ls hP hS hl =>
  W.zret X.1 X.2.1 hr (by rcases hz with rfl | rfl <;> rfl) (fun t ht _ => ⟨⟨iI z, (z, σ), rfl, ⟨rfl, h⟩, (by show Pic D cs ids ad σ t.heap; rw [ht]; exact hP)⟩, hS.F ht⟩) hS.2.2 d X.2.2.2.2.2
theorem zr_vret (X : Cx p s m args meth c cc nL own) {Post : Mem → Prop} (hr : meth.sig.returnType = none) (d : decode cc pc = .ok (.return_, 1)) (h : Post σ) : Wx p l e R s m args below meth c D cs ids ad (Rg ids ad) s.heap nL (MQ below (qV D cs ids ad Post) args s 0 0 (Rg ids ad)) 0 0 σ pc lo [] := fun H locs ls hP hS hl =>
  W.vret X.1 X.2.1 hr (fun t ht _ => ⟨⟨σ, rfl, h, (by show Pic D cs ids ad σ t.heap; rw [ht]; exact hP)⟩, hS.F ht⟩) hS.2.2 d X.2.2.2.2.2
/-- the words of a call of a method of the same class, of a nest mate -/
def lkV (own : String) (idx : Nat) (y : MethodName) (bytes : ByteArray) (maxL : Nat) (ret : Option FieldType) : Prop := Cond.methodLink own idx y ∈ TB ∧ Cond.instanceMethod y ∈ TB ∧ Cond.selects y.cls y y ∈ TB ∧ Cond.initialized y.cls ∈ TB ∧ Cond.code y bytes maxL ret ∈ TB
def lkN (own host : String) (idx : Nat) (y : MethodName) (bytes : ByteArray) (maxL : Nat) (ret : Option FieldType) : Prop := Cond.methodLinkNest own idx y host ∈ NW ∧ Cond.instanceMethod y ∈ TB ∧ Cond.selects y.cls y y ∈ TB ∧ Cond.initialized y.cls ∈ TB ∧ Cond.code y bytes maxL ret ∈ TB
def lkS (own : String) (idx : Nat) (y : MethodName) (bytes : ByteArray) (maxL : Nat) (ret : Option FieldType) : Prop := Cond.methodLink own idx y ∈ TB ∧ Cond.static y ∈ TB ∧ Cond.initialized y.cls ∈ TB ∧ Cond.code y bytes maxL ret ∈ TB
def lkSN (own host : String) (idx : Nat) (y : MethodName) (bytes : ByteArray) (maxL : Nat) (ret : Option FieldType) : Prop := Cond.methodLinkNest own idx y host ∈ NW ∧ Cond.static y ∈ TB ∧ Cond.initialized y.cls ∈ TB ∧ Cond.code y bytes maxL ret ∈ TB
/-- the callee's name is plain, it takes n parameters, and the room holds it -/
def dcl (y : MethodName) (n : Nat) : Prop := y.cls ≠ "java/lang/invoke/MethodHandle" ∧ y.cls ≠ "java/lang/invoke/VarHandle" ∧ (parseMethodDescriptor y.desc).map (fun d => d.parameters.length) = some n
theorem wsy_in {y : MethodName} {bytes : ByteArray} {maxL : Nat} {ret : Option FieldType} (h : Cond.code y bytes maxL ret ∈ TB) : GoodIn TB (wsy y bytes maxL ret) := fun w hw => by
  have hm : w ∈ TB := (List.mem_cons.mp hw).elim (fun e => by rw [e]; exact h) id
  exact ⟨hm, good_of_word (TB_good hm)⟩
theorem cb_V (X : Cx p s m args meth c cc nL own) {y : MethodName} {bytes : ByteArray} {maxL index n h mc1 ms1 : Nat} {ret : Option FieldType} (L : lkV own index y bytes maxL ret) (hd : dcl y n) (hR : h + 1 ≤ R.frames ∧ 8 + (maxL + 11) + (100 + 28 * h) ≤ R.locals) : CallW R s args own y.cls index y bytes maxL ret (wsy y bytes maxL ret) (rmm h mc1 ms1) mc1 ms1 n :=
  ⟨callB_of n X.2.2.2.2.1 (wsy_in L.2.2.2.2) rfl rfl rfl (X.2.2.2.2.1 _ L.2.2.2.1) (X.2.2.2.2.1 _ L.1) hd hR, X.2.2.2.2.1 _ L.2.1, X.2.2.2.2.1 _ L.2.2.1⟩
theorem cb_S (X : Cx p s m args meth c cc nL own) {y : MethodName} {bytes : ByteArray} {maxL index n h mc1 ms1 : Nat} {ret : Option FieldType} (L : lkS own index y bytes maxL ret) (hd : dcl y n) (hR : h + 1 ≤ R.frames ∧ 8 + (maxL + 11) + (100 + 28 * h) ≤ R.locals) : CallB R s args own index y bytes maxL ret (wsy y bytes maxL ret) (rmm h mc1 ms1) mc1 ms1 n ∧ (Cond.static y).before args s = true :=
  ⟨callB_of n X.2.2.2.2.1 (wsy_in L.2.2.2) rfl rfl rfl (X.2.2.2.2.1 _ L.2.2.1) (X.2.2.2.2.1 _ L.1) hd hR, X.2.2.2.2.1 _ L.2.1⟩
theorem cb_N (X : Cx p s m args meth c cc nL own) (K : Kx D cs ids ad A s) {y : MethodName} {host : String} {bytes : ByteArray} {maxL index n h mc1 ms1 : Nat} {ret : Option FieldType} (L : lkN own host index y bytes maxL ret) (hd : dcl y n) (hR : h + 1 ≤ R.frames ∧ 8 + (maxL + 11) + (100 + 28 * h) ≤ R.locals) : va_CN R s args own index y host bytes maxL ret (wsy y bytes maxL ret) (rmm h mc1 ms1) mc1 ms1 n ∧ (Cond.instanceMethod y).before args s = true ∧ (Cond.selects y.cls y y).before args s = true :=
  ⟨va_cnB n X.2.2.2.2.1 (wsy_in L.2.2.2.2) rfl rfl rfl (K.2.2.2.2.1 _ L.1) (X.2.2.2.2.1 _ L.2.2.2.1) hd hR, X.2.2.2.2.1 _ L.2.1, X.2.2.2.2.1 _ L.2.2.1⟩
theorem cb_SN (X : Cx p s m args meth c cc nL own) (K : Kx D cs ids ad A s) {y : MethodName} {host : String} {bytes : ByteArray} {maxL index n h mc1 ms1 : Nat} {ret : Option FieldType} (L : lkSN own host index y bytes maxL ret) (hd : dcl y n) (hR : h + 1 ≤ R.frames ∧ 8 + (maxL + 11) + (100 + 28 * h) ≤ R.locals) : va_CN R s args own index y host bytes maxL ret (wsy y bytes maxL ret) (rmm h mc1 ms1) mc1 ms1 n ∧ (Cond.static y).before args s = true ∧ True :=
  ⟨va_cnB n X.2.2.2.2.1 (wsy_in L.2.2.2) rfl rfl rfl (K.2.2.2.2.1 _ L.1) (X.2.2.2.2.1 _ L.2.2.1) hd hR, X.2.2.2.2.1 _ L.2.1, trivial⟩
theorem pre_S (K : Kx D cs ids ad A s) {H : Heap} {As : List Value} (hP : Pic D cs ids ad σ H) : PreS s H (va_Pc As (fun U => Wo D cs ids ad σ U)) As :=
  ⟨fun a U g mk q => ⟨q.1, Wo.same (u := U) (U := U.calling g mk a) rfl rfl q.2⟩, fun U hU hW => ⟨rfl, by rw [hU]; exact hP, va_K.moved hW.alike K.1, K.2.2.2.2.1.warm hW, K.2.2.2.2.2.warm hW⟩⟩
theorem pre_V (K : Kx D cs ids ad A s) {H : Heap} {o : Ix} {ci : Nat} {q : vw_C} {fs : List Value} {As : List Value} (hP : Pic D cs ids ad σ H) (ho : o ∈ ids) (he : enc cs ad σ o = .inr (ci, fs)) (hc : vwCl[ci]? = some q) : PreV s H q.1 (ad o) (va_Pc (.ref (ad o) :: As) (fun U => Wo D cs ids ad σ U)) As :=
  ⟨fun a U g mk q => ⟨q.1, Wo.same (u := U) (U := U.calling g mk a) rfl rfl q.2⟩, va_recv K.1 (pic_one hP ho he) hc (q0 := 0) rfl, fun U hU hW => ⟨rfl, by rw [hU]; exact hP, va_K.moved hW.alike K.1, K.2.2.2.2.1.warm hW, K.2.2.2.2.2.warm hW⟩⟩
theorem Rg_in (K : Kx D cs ids ad A s) : ∀ q, Rg ids ad q → A q := fun q h => by
  obtain ⟨i, hi, rfl⟩ := h
  exact K.2.2.1 i hi
theorem zr_callVI (X : Cx p s m args meth c cc nL own) (K : Kx D cs ids ad A s) {y : MethodName} {bytes : ByteArray} {maxL index n h ci : Nat} {ret : FieldType} {o : Ix} {q : vw_C} {fs : List Value} {As st1 : List Value} {Post : Int → Mem → Prop} (hC : CI l D cs ids ad y bytes maxL ret h (.ref (ad o) :: As) σ Post) (L : lkV own index y bytes maxL (some ret)) (hd : dcl y n) (ho : o ∈ ids) (he : enc cs ad σ o = .inr (ci, fs)) (hc : vwCl[ci]? = some q) (hy : y.cls = q.1) (hst : st1 = As.reverse ++ .ref (ad o) :: st) (hn : As.length = n) (hW : (st.map fun v => v.category).sum ≤ 8) (hR : (h + 1 ≤ R.frames ∧ 8 + (maxL + 11) + (100 + 28 * h) ≤ R.locals) ∧ mc ≤ R.cells ∧ ms ≤ R.slots) (d : decode cc pc = .ok (.invokevirtual index, 3))
    (kk : ∀ (z : Int) (τ : Mem), Post z τ → Wx p l e R s m args below meth c D cs ids ad A H0 nL Q mc ms τ (pc + 3) lo (jI z :: st)) : Wx p l e R s m args below meth c D cs ids ad A H0 nL Q mc ms σ pc lo st1 := fun H locs ls hP hS hl => by
  subst hst
  refine va_calli (va_runV (As := As) (rest := st) (C := y.cls) ⟨X.1, X.2.1, X.2.2.1, X.2.2.2.1, X.2.2.2.2.1⟩ hC (cb_V X L hd hR.1) (by rw [hy]; exact pre_V K hP ho he hc) rfl hn hl.1 rfl (by show 2 * 0 + _ ≤ 8; omega) d hR.2) hS (fun q _ h => Rg_in K q h) (Rg_in K) (fun r u t H1 locs1 ht _ hw hB _ _ hS1 => ?_)
  obtain ⟨rfl, hp⟩ := hw
  exact kk u.1 u.2 hp H1 locs1 ls (by rw [← ht]; exact hB) hS1 hl
theorem zr_callVV (X : Cx p s m args meth c cc nL own) (K : Kx D cs ids ad A s) {y : MethodName} {bytes : ByteArray} {maxL index n h ci : Nat} {o : Ix} {q : vw_C} {fs : List Value} {As st1 : List Value} {Post : Mem → Prop} (hC : CV l D cs ids ad y bytes maxL h (.ref (ad o) :: As) σ Post) (L : lkV own index y bytes maxL none) (hd : dcl y n) (ho : o ∈ ids) (he : enc cs ad σ o = .inr (ci, fs)) (hc : vwCl[ci]? = some q) (hy : y.cls = q.1) (hst : st1 = As.reverse ++ .ref (ad o) :: st) (hn : As.length = n) (hW : (st.map fun v => v.category).sum ≤ 8) (hR : (h + 1 ≤ R.frames ∧ 8 + (maxL + 11) + (100 + 28 * h) ≤ R.locals) ∧ mc ≤ R.cells ∧ ms ≤ R.slots) (d : decode cc pc = .ok (.invokevirtual index, 3))
    (kk : ∀ (τ : Mem), Post τ → Wx p l e R s m args below meth c D cs ids ad A H0 nL Q mc ms τ (pc + 3) lo st) : Wx p l e R s m args below meth c D cs ids ad A H0 nL Q mc ms σ pc lo st1 := fun H locs ls hP hS hl => by
  subst hst
  refine va_callv (va_runV (As := As) (rest := st) (C := y.cls) ⟨X.1, X.2.1, X.2.2.1, X.2.2.2.1, X.2.2.2.2.1⟩ hC (cb_V X L hd hR.1) (by rw [hy]; exact pre_V K hP ho he hc) rfl hn hl.1 rfl (by show 2 * 0 + _ ≤ 8; omega) d hR.2) hS (fun q _ h => Rg_in K q h) (Rg_in K) (fun u t H1 locs1 ht _ hw hB _ _ hS1 => ?_)
  exact kk u hw H1 locs1 ls (by rw [← ht]; exact hB) hS1 hl
theorem zr_callNI (X : Cx p s m args meth c cc nL own) (K : Kx D cs ids ad A s) {y : MethodName} {host : String} {bytes : ByteArray} {maxL index n h ci : Nat} {ret : FieldType} {o : Ix} {q : vw_C} {fs : List Value} {As st1 : List Value} {Post : Int → Mem → Prop} (hC : CI l D cs ids ad y bytes maxL ret h (.ref (ad o) :: As) σ Post) (L : lkN own host index y bytes maxL (some ret)) (hd : dcl y n) (ho : o ∈ ids) (he : enc cs ad σ o = .inr (ci, fs)) (hc : vwCl[ci]? = some q) (hy : y.cls = q.1) (hst : st1 = As.reverse ++ .ref (ad o) :: st) (hn : As.length = n) (hW : (st.map fun v => v.category).sum ≤ 8) (hR : (h + 1 ≤ R.frames ∧ 8 + (maxL + 11) + (100 + 28 * h) ≤ R.locals) ∧ mc ≤ R.cells ∧ ms ≤ R.slots) (d : decode cc pc = .ok (.invokevirtual index, 3))
    (kk : ∀ (z : Int) (τ : Mem), Post z τ → Wx p l e R s m args below meth c D cs ids ad A H0 nL Q mc ms τ (pc + 3) lo (jI z :: st)) : Wx p l e R s m args below meth c D cs ids ad A H0 nL Q mc ms σ pc lo st1 := fun H locs ls hP hS hl => by
  subst hst
  refine va_calli (va_runVN (As := As) (rest := st) (C := y.cls) ⟨X.1, X.2.1, X.2.2.1, X.2.2.2.1, X.2.2.2.2.1⟩ hC (cb_N X K L hd hR.1) (by rw [hy]; exact pre_V K hP ho he hc) rfl hn hl.1 rfl (by show 2 * 0 + _ ≤ 8; omega) d hR.2) hS (fun q _ h => Rg_in K q h) (Rg_in K) (fun r u t H1 locs1 ht _ hw hB _ _ hS1 => ?_)
  obtain ⟨rfl, hp⟩ := hw
  exact kk u.1 u.2 hp H1 locs1 ls (by rw [← ht]; exact hB) hS1 hl
theorem zr_callNV (X : Cx p s m args meth c cc nL own) (K : Kx D cs ids ad A s) {y : MethodName} {host : String} {bytes : ByteArray} {maxL index n h ci : Nat} {o : Ix} {q : vw_C} {fs : List Value} {As st1 : List Value} {Post : Mem → Prop} (hC : CV l D cs ids ad y bytes maxL h (.ref (ad o) :: As) σ Post) (L : lkN own host index y bytes maxL none) (hd : dcl y n) (ho : o ∈ ids) (he : enc cs ad σ o = .inr (ci, fs)) (hc : vwCl[ci]? = some q) (hy : y.cls = q.1) (hst : st1 = As.reverse ++ .ref (ad o) :: st) (hn : As.length = n) (hW : (st.map fun v => v.category).sum ≤ 8) (hR : (h + 1 ≤ R.frames ∧ 8 + (maxL + 11) + (100 + 28 * h) ≤ R.locals) ∧ mc ≤ R.cells ∧ ms ≤ R.slots) (d : decode cc pc = .ok (.invokevirtual index, 3))
    (kk : ∀ (τ : Mem), Post τ → Wx p l e R s m args below meth c D cs ids ad A H0 nL Q mc ms τ (pc + 3) lo st) : Wx p l e R s m args below meth c D cs ids ad A H0 nL Q mc ms σ pc lo st1 := fun H locs ls hP hS hl => by
  subst hst
  refine va_callv (va_runVN (As := As) (rest := st) (C := y.cls) ⟨X.1, X.2.1, X.2.2.1, X.2.2.2.1, X.2.2.2.2.1⟩ hC (cb_N X K L hd hR.1) (by rw [hy]; exact pre_V K hP ho he hc) rfl hn hl.1 rfl (by show 2 * 0 + _ ≤ 8; omega) d hR.2) hS (fun q _ h => Rg_in K q h) (Rg_in K) (fun u t H1 locs1 ht _ hw hB _ _ hS1 => ?_)
  exact kk u hw H1 locs1 ls (by rw [← ht]; exact hB) hS1 hl
theorem zr_callSI (X : Cx p s m args meth c cc nL own) (K : Kx D cs ids ad A s) {y : MethodName} {bytes : ByteArray} {maxL index n h : Nat} {ret : FieldType} {As st1 : List Value} {Post : Int → Mem → Prop} (hC : CI l D cs ids ad y bytes maxL ret h As σ Post) (L : lkS own index y bytes maxL (some ret)) (hd : dcl y n) (hst : st1 = As.reverse ++ st) (hn : As.length = n) (hW : (st.map fun v => v.category).sum ≤ 8) (hR : (h + 1 ≤ R.frames ∧ 8 + (maxL + 11) + (100 + 28 * h) ≤ R.locals) ∧ mc ≤ R.cells ∧ ms ≤ R.slots) (d : decode cc pc = .ok (.invokestatic index, 3))
    (kk : ∀ (z : Int) (τ : Mem), Post z τ → Wx p l e R s m args below meth c D cs ids ad A H0 nL Q mc ms τ (pc + 3) lo (jI z :: st)) : Wx p l e R s m args below meth c D cs ids ad A H0 nL Q mc ms σ pc lo st1 := fun H locs ls hP hS hl => by
  subst hst
  refine va_calli (va_runS (As := As) (rest := st) ⟨X.1, X.2.1, X.2.2.1, X.2.2.2.1, X.2.2.2.2.1⟩ hC (cb_S X L hd hR.1) (pre_S K hP) rfl hn hl.1 rfl (by show 2 * 0 + _ ≤ 8; omega) d hR.2) hS (fun q _ h => Rg_in K q h) (Rg_in K) (fun r u t H1 locs1 ht _ hw hB _ _ hS1 => ?_)
  obtain ⟨rfl, hp⟩ := hw
  exact kk u.1 u.2 hp H1 locs1 ls (by rw [← ht]; exact hB) hS1 hl
theorem zr_callSV (X : Cx p s m args meth c cc nL own) (K : Kx D cs ids ad A s) {y : MethodName} {bytes : ByteArray} {maxL index n h : Nat} {As st1 : List Value} {Post : Mem → Prop} (hC : CV l D cs ids ad y bytes maxL h As σ Post) (L : lkS own index y bytes maxL none) (hd : dcl y n) (hst : st1 = As.reverse ++ st) (hn : As.length = n) (hW : (st.map fun v => v.category).sum ≤ 8) (hR : (h + 1 ≤ R.frames ∧ 8 + (maxL + 11) + (100 + 28 * h) ≤ R.locals) ∧ mc ≤ R.cells ∧ ms ≤ R.slots) (d : decode cc pc = .ok (.invokestatic index, 3))
    (kk : ∀ (τ : Mem), Post τ → Wx p l e R s m args below meth c D cs ids ad A H0 nL Q mc ms τ (pc + 3) lo st) : Wx p l e R s m args below meth c D cs ids ad A H0 nL Q mc ms σ pc lo st1 := fun H locs ls hP hS hl => by
  subst hst
  refine va_callv (va_runS (As := As) (rest := st) ⟨X.1, X.2.1, X.2.2.1, X.2.2.2.1, X.2.2.2.2.1⟩ hC (cb_S X L hd hR.1) (pre_S K hP) rfl hn hl.1 rfl (by show 2 * 0 + _ ≤ 8; omega) d hR.2) hS (fun q _ h => Rg_in K q h) (Rg_in K) (fun u t H1 locs1 ht _ hw hB _ _ hS1 => ?_)
  exact kk u hw H1 locs1 ls (by rw [← ht]; exact hB) hS1 hl
theorem zr_callSNI (X : Cx p s m args meth c cc nL own) (K : Kx D cs ids ad A s) {y : MethodName} {host : String} {bytes : ByteArray} {maxL index n h : Nat} {ret : FieldType} {As st1 : List Value} {Post : Int → Mem → Prop} (hC : CI l D cs ids ad y bytes maxL ret h As σ Post) (L : lkSN own host index y bytes maxL (some ret)) (hd : dcl y n) (hst : st1 = As.reverse ++ st) (hn : As.length = n) (hW : (st.map fun v => v.category).sum ≤ 8) (hR : (h + 1 ≤ R.frames ∧ 8 + (maxL + 11) + (100 + 28 * h) ≤ R.locals) ∧ mc ≤ R.cells ∧ ms ≤ R.slots) (d : decode cc pc = .ok (.invokestatic index, 3))
    (kk : ∀ (z : Int) (τ : Mem), Post z τ → Wx p l e R s m args below meth c D cs ids ad A H0 nL Q mc ms τ (pc + 3) lo (jI z :: st)) : Wx p l e R s m args below meth c D cs ids ad A H0 nL Q mc ms σ pc lo st1 := fun H locs ls hP hS hl => by
  subst hst
  refine va_calli (va_runSN (As := As) (rest := st) ⟨X.1, X.2.1, X.2.2.1, X.2.2.2.1, X.2.2.2.2.1⟩ hC (cb_SN X K L hd hR.1) (pre_S K hP) rfl hn hl.1 rfl (by show 2 * 0 + _ ≤ 8; omega) d hR.2) hS (fun q _ h => Rg_in K q h) (Rg_in K) (fun r u t H1 locs1 ht _ hw hB _ _ hS1 => ?_)
  obtain ⟨rfl, hp⟩ := hw
  exact kk u.1 u.2 hp H1 locs1 ls (by rw [← ht]; exact hB) hS1 hl
end ZC
end
section
theorem mF_0_0 : ((0, 0) : Ix) ∈ idsF := by decide +kernel
theorem mF_0_2 : ((0, 2) : Ix) ∈ idsF := by decide +kernel
theorem mF_0_3 : ((0, 3) : Ix) ∈ idsF := by decide +kernel
theorem mF_0_4 : ((0, 4) : Ix) ∈ idsF := by decide +kernel
theorem mF_0_5 : ((0, 5) : Ix) ∈ idsF := by decide +kernel
theorem mF_3_0 : ((3, 0) : Ix) ∈ idsF := by decide +kernel
theorem mF_3_1 : ((3, 1) : Ix) ∈ idsF := by decide +kernel
theorem mF_3_2 : ((3, 2) : Ix) ∈ idsF := by decide +kernel
theorem mF_3_3 : ((3, 3) : Ix) ∈ idsF := by decide +kernel
theorem mF_3_4 : ((3, 4) : Ix) ∈ idsF := by decide +kernel
theorem mF_3_5 : ((3, 5) : Ix) ∈ idsF := by decide +kernel
theorem mF_3_6 : ((3, 6) : Ix) ∈ idsF := by decide +kernel
theorem mF_3_7 : ((3, 7) : Ix) ∈ idsF := by decide +kernel
theorem mF_6_0 : ((6, 0) : Ix) ∈ idsF := by decide +kernel
theorem mF_6_1 : ((6, 1) : Ix) ∈ idsF := by decide +kernel
theorem mF_6_2 : ((6, 2) : Ix) ∈ idsF := by decide +kernel
theorem mF_6_3 : ((6, 3) : Ix) ∈ idsF := by decide +kernel
theorem mF_6_4 : ((6, 4) : Ix) ∈ idsF := by decide +kernel
theorem mF_6_5 : ((6, 5) : Ix) ∈ idsF := by decide +kernel
theorem mF_6_6 : ((6, 6) : Ix) ∈ idsF := by decide +kernel
theorem mF_6_7 : ((6, 7) : Ix) ∈ idsF := by decide +kernel
theorem mF_7_0 : ((7, 0) : Ix) ∈ idsF := by decide +kernel
theorem mF_7_1 : ((7, 1) : Ix) ∈ idsF := by decide +kernel
theorem mF_7_2 : ((7, 2) : Ix) ∈ idsF := by decide +kernel
theorem mF_7_3 : ((7, 3) : Ix) ∈ idsF := by decide +kernel
theorem mF_7_4 : ((7, 4) : Ix) ∈ idsF := by decide +kernel
theorem mF_7_5 : ((7, 5) : Ix) ∈ idsF := by decide +kernel
theorem mF_7_6 : ((7, 6) : Ix) ∈ idsF := by decide +kernel
theorem mF_7_7 : ((7, 7) : Ix) ∈ idsF := by decide +kernel
theorem mM_0 : ((4, 0) : Ix) ∈ idsM := by decide +kernel
theorem mM_1 : ((4, 1) : Ix) ∈ idsM := by decide +kernel
theorem mM_2 : ((4, 2) : Ix) ∈ idsM := by decide +kernel
theorem mB {b k : Nat} (hb : b < 2) (hk : k < 8) : ((b + 6, k) : Ix) ∈ idsF := by
  have h : ∀ b : Fin 2, ∀ k : Fin 8, ((b.val + 6, k.val) : Ix) ∈ idsF := by decide +kernel
  exact h ⟨b, hb⟩ ⟨k, hk⟩
theorem mR1 {v : Nat} (h : v < 24) : ((1, v) : Ix) ∈ idsF := by
  have h1 : ∀ v : Fin 24, ((1, v.val) : Ix) ∈ idsF := by decide +kernel
  exact h1 ⟨v, h⟩
theorem mR2 {v : Nat} (h : v < 8) : ((2, v) : Ix) ∈ idsF := by
  have h1 : ∀ v : Fin 8, ((2, v.val) : Ix) ∈ idsF := by decide +kernel
  exact h1 ⟨v, h⟩
/-! masks: whole numbers, read bit by bit -/
def bt (m v : Int) : Bool := m.toNat.testBit v.toNat
def pI (v : Int) : Int := ((2 ^ v.toNat : Nat) : Int)
def oI (a b : Int) : Int := ((a.toNat ||| b.toNat : Nat) : Int)
def sI (m v : Int) : Int := ((m.toNat / 2 ^ v.toNat : Nat) : Int)
theorem nat_of {z : Int} (h : 0 ≤ z) : ∃ n : Nat, z = (n : Int) := ⟨z.toNat, (Int.toNat_of_nonneg h).symm⟩
theorem zb_shl {v : Int} (h0 : 0 ≤ v) (h : v < 31) : iI 1 <<< (iI v &&& 31) = iI (pI v) := by
  obtain ⟨n, rfl⟩ := nat_of h0
  have h1 : ∀ n : Fin 31, iI 1 <<< (iI (n.val : Int) &&& 31) = iI (pI (n.val : Int)) := by decide +kernel
  exact h1 ⟨n, by omega⟩
theorem zb_sm {n : Nat} (h : n < 32) : ((nI n &&& 31).toBitVec.smod 32).toNat = n := by
  have h1 : ∀ n : Fin 32, ((nI n.val &&& 31).toBitVec.smod 32).toNat = n.val := by decide +kernel
  exact h1 ⟨n, h⟩
theorem zb_shr {m v : Int} (hm : 0 ≤ m) (hm2 : m < 2147483648) (h0 : 0 ≤ v) (h : v < 31) : iI m >>> (iI v &&& 31) = iI (sI m v) := by
  obtain ⟨n, rfl⟩ := nat_of h0
  obtain ⟨k, rfl⟩ := nat_of hm
  exact pk_shrN (n := k) (by omega) _ n (zb_sm (by omega))
theorem zb_and1 {m : Int} (hm : 0 ≤ m) (hm2 : m < 2147483648) : iI m &&& iI 1 = iI (m % 2) := by
  obtain ⟨k, rfl⟩ := nat_of hm
  exact pk_andN (n := k) (by omega) (m := 1) 1 rfl
theorem zb_or {a b : Int} (ha : 0 ≤ a) (hb : 0 ≤ b) : iI a ||| iI b = iI (oI a b) := by
  obtain ⟨k, rfl⟩ := nat_of ha
  obtain ⟨n, rfl⟩ := nat_of hb
  show Int32.ofNat k ||| Int32.ofNat n = Int32.ofNat (k ||| n)
  apply Int32.toBitVec_inj.mp
  apply BitVec.eq_of_getLsbD_eq
  intro i hi
  simp [hi]
theorem sI_mod {m v : Int} : sI m v % 2 = if bt m v then 1 else 0 := by
  unfold sI bt
  rw [Nat.testBit_eq_decide_div_mod_eq]
  generalize m.toNat / 2 ^ v.toNat = q
  have h : q % 2 < 2 := Nat.mod_lt _ (by decide)
  by_cases h1 : q % 2 = 1
  · rw [decide_eq_true h1, if_pos rfl]
    omega
  · rw [decide_eq_false h1, if_neg (by decide)]
    omega
theorem sI_rg {m v : Int} (hm2 : m < 2147483648) : 0 ≤ sI m v ∧ sI m v < 2147483648 := by
  unfold sI
  have : m.toNat / 2 ^ v.toNat ≤ m.toNat := Nat.div_le_self _ _
  generalize m.toNat / 2 ^ v.toNat = q at *
  omega
/-- a mask of nodes below n -/
def isM (n m : Int) : Prop := 0 ≤ m ∧ m < 16777216 ∧ ∀ v, 0 ≤ v → bt m v = true → v < n
theorem oI_lt {a b : Int} (ha : a < 16777216) (hb : b < 16777216) : 0 ≤ oI a b ∧ oI a b < 16777216 := by
  have h := Nat.or_lt_two_pow (x := a.toNat) (y := b.toNat) (n := 24) (by omega) (by omega)
  unfold oI
  omega
theorem bt_o {a b v : Int} : bt (oI a b) v = (bt a v || bt b v) := by
  unfold bt oI
  rw [Int.toNat_natCast, Nat.testBit_or]
theorem bt_p {v w : Int} (hv : 0 ≤ v) (hw : 0 ≤ w) : bt (pI v) w = decide (v = w) := by
  unfold bt pI
  rw [Int.toNat_natCast, Nat.testBit_two_pow]
  have : (v.toNat = w.toNat) ↔ (v = w) := by omega
  simp [this]
theorem pI_rg {v : Int} (h : v < 24) : 0 ≤ pI v ∧ pI v < 16777216 := by
  unfold pI
  have h1 : 2 ^ v.toNat < 2 ^ 24 := Nat.pow_lt_pow_right (by decide) (by omega)
  generalize 2 ^ v.toNat = q at *
  omega
theorem pI_rg31 {v : Int} (h : v < 31) : 0 ≤ pI v ∧ pI v < 2147483648 := by
  unfold pI
  have h1 : 2 ^ v.toNat < 2 ^ 31 := Nat.pow_lt_pow_right (by decide) (by omega)
  generalize 2 ^ v.toNat = q at *
  omega
theorem bt_ext {a b : Int} (ha : 0 ≤ a) (hb : 0 ≤ b) (h : ∀ v, 0 ≤ v → bt a v = bt b v) : a = b := by
  have : a.toNat = b.toNat := by
    apply Nat.eq_of_testBit_eq
    intro i
    have := h (i : Int) (by omega)
    unfold bt at this
    rwa [Int.toNat_natCast] at this
  omega
theorem bt_big {m v : Int} (hm : m < 16777216) (hv : 24 ≤ v) : bt m v = false := by
  unfold bt
  apply Nat.testBit_lt_two_pow
  calc m.toNat < 2 ^ 24 := by omega
    _ ≤ 2 ^ v.toNat := Nat.pow_le_pow_right (by decide) (by omega)
/-! what a network is -/
def NetOk (σ : Mem) : Prop := (0 ≤ σ (0, 0) 0 ∧ σ (0, 0) 0 ≤ 24) ∧ (0 ≤ σ (0, 1) 0 ∧ σ (0, 1) 0 ≤ 80) ∧
  (∀ a, 0 ≤ a → a < σ (0, 1) 0 → (0 ≤ σ (0, 2) a ∧ σ (0, 2) a < σ (0, 0) 0) ∧ (0 ≤ σ (0, 3) a ∧ σ (0, 3) a < σ (0, 0) 0) ∧ σ (0, 2) a ≠ σ (0, 3) a)
/-- the rows of arcs at each node -/
def AdjOk (σ : Mem) : Prop := (∀ v, 0 ≤ v → v < 24 → 0 ≤ σ (0, 4) v ∧ σ (0, 4) v ≤ σ (0, 1) 0) ∧ (∀ v, σ (0, 0) 0 ≤ v → v < 24 → σ (0, 4) v = 0) ∧
  (∀ v i, 0 ≤ v → v < 24 → 0 ≤ i → i < σ (0, 4) v → (0 ≤ σ (1, v.toNat) i ∧ σ (1, v.toNat) i < σ (0, 1) 0) ∧ (σ (0, 2) (σ (1, v.toNat) i) = v ∨ σ (0, 3) (σ (1, v.toNat) i) = v)) ∧
  (∀ a, 0 ≤ a → a < σ (0, 1) 0 → (∃ i, (0 ≤ i ∧ i < σ (0, 4) (σ (0, 2) a)) ∧ σ (1, (σ (0, 2) a).toNat) i = a) ∧ (∃ i, (0 ≤ i ∧ i < σ (0, 4) (σ (0, 3) a)) ∧ σ (1, (σ (0, 3) a).toNat) i = a))
/-- what an arc may carry, and what it carries -/
def FlOk (σ : Mem) (b : Nat) : Prop := ∀ a, 0 ≤ a → a < σ (0, 1) 0 → 0 ≤ σ (b + 6, 3) a ∧ σ (b + 6, 3) a ≤ σ (b + 6, 2) a ∧ σ (b + 6, 2) a ≤ 100000000
/-- two memories are the same but for some numbers -/
def Agr (l : List Ix) (σ τ : Mem) : Prop := ∀ q, q ∉ l → τ q = σ q
theorem Agr.rf {l : List Ix} {σ : Mem} : Agr l σ σ := fun _ _ => rfl
theorem Agr.tr {l : List Ix} {σ τ υ : Mem} (h : Agr l σ τ) (k : Agr l τ υ) : Agr l σ υ := fun q hq => (k q hq).trans (h q hq)
theorem Agr.up {l k : List Ix} {σ τ : Mem} (h : Agr l σ τ) (hs : ∀ q ∈ l, q ∈ k) : Agr k σ τ := fun q hq => h q (fun e => hq (hs q e))
theorem Agr.set {l : List Ix} {σ : Mem} {i : Ix} {z x : Int} (h : i ∈ l) : Agr l σ (mset σ i z x) := fun q hq => mset_id (fun e => hq (e ▸ h))
end
section
/-! FLOW AND NETWORK: the leaves -/

theorem dc_X6_contains : dcl yX6_contains 2 := ⟨by decide, by decide, by decide +kernel⟩
theorem dc_X1_room : dcl yX1_room 2 := ⟨by decide, by decide, by decide +kernel⟩
theorem dc_X1_send : dcl yX1_send 3 := ⟨by decide, by decide, by decide +kernel⟩
theorem dc_X4_otherEnd : dcl yX4_otherEnd 2 := ⟨by decide, by decide, by decide +kernel⟩
theorem dc_X1_withNeighbours : dcl yX1_withNeighbours 1 := ⟨by decide, by decide, by decide +kernel⟩
theorem dc_X1_reachableFrom : dcl yX1_reachableFrom 1 := ⟨by decide, by decide, by decide +kernel⟩
theorem dc_X1_capacityOut : dcl yX1_capacityOut 1 := ⟨by decide, by decide, by decide +kernel⟩
theorem dc_X1_block : dcl yX1_block 1 := ⟨by decide, by decide, by decide +kernel⟩
theorem dc_X1_copy : dcl yX1_copy 1 := ⟨by decide, by decide, by decide +kernel⟩
theorem dc_J7_fill_53178 : dcl yJ7_fill_53178 2 := ⟨by decide, by decide, by decide +kernel⟩
theorem dc_X4_allNodes : dcl yX4_allNodes 0 := ⟨by decide, by decide, by decide +kernel⟩

set_option maxHeartbeats 4000000 in
set_option maxRecDepth 100000 in
/-- contains: a bit of a mask -/
theorem c_X6_contains (l : Launch) (D : va_G) (cs : Nat → ClassId) (ad : Ix → Nat) (hap : Apart idsF ad) {σ : Mem} {m v : Int} (hm : 0 ≤ m ∧ m < 2147483648) (hv : 0 ≤ v ∧ v < 31) : CI l D cs idsF ad yX6_contains cX6_contains 2 .boolean 0 [(jI m), (jI v)] σ (fun z τ => τ = σ ∧ z = if bt m v then 1 else 0) := by
  refine CI.of RX6 hap idsF_nd (by decide) rfl (Nat.le_of_ble_eq_true rfl) ?_
  intro pg ev s0 mi av bl mt cd X K hr
  refine zr_iloadn X dX6_contains_0 rfl ?_
  refine zr_iloadn X dX6_contains_1 rfl ?_
  refine zr_ishr X dX6_contains_2 (zb_shr hm.1 hm.2 hv.1 hv.2) ?_
  refine zr_iconst X dX6_contains_3 ?_
  refine zr_iand X dX6_contains_4 ((zb_and1 (sI_rg hm.2).1 (sI_rg hm.2).2).trans (congrArg iI sI_mod)) ?_
  refine zr_iconst X dX6_contains_5 ?_
  refine zr_icmp_ne X 13 dX6_contains_6 (by decide) (by split <;> exact ⟨by decide, by decide⟩) ⟨by omega, by omega⟩ (fun t_6 => ?_) (fun f_6 => ?_)
  · refine zr_iconst X dX6_contains_13 ?_
    refine zr_zret X hr dX6_contains_14 (by omega) ?_
    refine ⟨rfl, ?_⟩
    by_cases h : bt m v = true <;> simp_all
  · refine zr_iconst X dX6_contains_9 ?_
    refine zr_goto X 14 dX6_contains_10 (by decide) ?_
    refine zr_zret X hr dX6_contains_14 (by omega) ?_
    refine ⟨rfl, ?_⟩
    by_cases h : bt m v = true <;> simp_all

/-- what more can go over an arc from one end -/
def rmF (σ : Mem) (b : Nat) (a v : Int) : Int := if σ (0, 2) a = v then σ (b + 6, 2) a - σ (b + 6, 3) a else σ (b + 6, 3) a

set_option maxHeartbeats 4000000 in
set_option maxRecDepth 100000 in
theorem c_X1_room (l : Launch) (D : va_G) (cs : Nat → ClassId) (ad : Ix → Nat) (hap : Apart idsF ad) {b : Nat} (hb : b < 2) {σ : Mem} (hN : NetOk σ) {a v : Int} (ha : 0 ≤ a ∧ a < σ (0, 1) 0) (hv : 0 ≤ v ∧ v < 24) : CI l D cs idsF ad yX1_room cX1_room 3 .int 0 [(.ref (ad (b + 6, 1))), (jI a), (jI v)] σ (fun z τ => τ = σ ∧ z = rmF σ b a v) := by
  refine CI.of RX1 hap idsF_nd (by decide) rfl (Nat.le_of_ble_eq_true rfl) ?_
  intro pg ev s0 mi av bl mt cd X K hr
  have hA := hN.2.1
  have hn := hN.1
  have ht := (hN.2.2 a ha.1 ha.2).1
  have hh := (hN.2.2 a ha.1 ha.2).2.1
  refine zr_aloadn X dX1_room_0 rfl ?_
  refine zr_get X K (C := RX1) (T := TX1) (N := 3) (k := 0) (mB hb (by decide)) rfl rfl ti_1 (by decide) rfl tw_80 rfl dX1_room_1 ?_
  refine zr_getN X K (C := RX4) (T := TX4) (N := 6) (k := 2) mF_0_0 rfl rfl ti_4 (by decide) rfl tn_43 rfl dX1_room_4 ?_
  refine zr_iloadn X dX1_room_7 rfl ?_
  refine zr_iald X K (n := 80) mF_0_2 rfl (by decide) (by omega) dX1_room_8 ?_
  refine zr_iloadn X dX1_room_9 rfl ?_
  refine zr_icmp_ne X 29 dX1_room_10 (by decide) ⟨by omega, by omega⟩ ⟨by omega, by omega⟩ (fun t_10 => ?_) (fun f_10 => ?_)
  · refine zr_aloadn X dX1_room_29 rfl ?_
    refine zr_get X K (C := RX1) (T := TX1) (N := 3) (k := 2) (mB hb (by decide)) rfl rfl ti_1 (by decide) rfl tw_84 rfl dX1_room_30 ?_
    refine zr_iloadn X dX1_room_33 rfl ?_
    refine zr_iald X K (n := 80) (mB hb (by decide)) rfl (by decide) (by omega) dX1_room_34 ?_
    refine zr_iret X hr dX1_room_35 ?_
    exact ⟨rfl, by unfold rmF; split <;> first | rfl | (exfalso; omega)⟩
  · refine zr_aloadn X dX1_room_13 rfl ?_
    refine zr_get X K (C := RX1) (T := TX1) (N := 3) (k := 1) (mB hb (by decide)) rfl rfl ti_1 (by decide) rfl tw_81 rfl dX1_room_14 ?_
    refine zr_iloadn X dX1_room_17 rfl ?_
    refine zr_iald X K (n := 80) (mB hb (by decide)) rfl (by decide) (by omega) dX1_room_18 ?_
    refine zr_aloadn X dX1_room_19 rfl ?_
    refine zr_get X K (C := RX1) (T := TX1) (N := 3) (k := 2) (mB hb (by decide)) rfl rfl ti_1 (by decide) rfl tw_84 rfl dX1_room_20 ?_
    refine zr_iloadn X dX1_room_23 rfl ?_
    refine zr_iald X K (n := 80) (mB hb (by decide)) rfl (by decide) (by omega) dX1_room_24 ?_
    refine zr_isub X dX1_room_25 ?_
    refine zr_goto X 35 dX1_room_26 (by decide) ?_
    refine zr_iret X hr dX1_room_35 ?_
    exact ⟨rfl, by unfold rmF; split <;> first | rfl | (exfalso; omega)⟩

set_option maxHeartbeats 4000000 in
set_option maxRecDepth 100000 in
theorem c_X1_send (l : Launch) (D : va_G) (cs : Nat → ClassId) (ad : Ix → Nat) (hap : Apart idsF ad) {b : Nat} (hb : b < 2) {σ : Mem} (hN : NetOk σ) {a v x : Int} (ha : 0 ≤ a ∧ a < σ (0, 1) 0) (hv : 0 ≤ v ∧ v < 24) : CV l D cs idsF ad yX1_send cX1_send 4 0 [(.ref (ad (b + 6, 1))), (jI a), (jI v), (jI x)] σ (fun τ => τ = mset σ (b + 6, 3) a (σ (b + 6, 3) a + if σ (0, 2) a = v then x else -x)) := by
  refine CV.of RX1 hap idsF_nd (by decide) rfl (Nat.le_of_ble_eq_true rfl) ?_
  intro pg ev s0 mi av bl mt cd X K hr
  have hA := hN.2.1
  have hn := hN.1
  have ht := (hN.2.2 a ha.1 ha.2).1
  have hh := (hN.2.2 a ha.1 ha.2).2.1
  refine zr_aloadn X dX1_send_0 rfl ?_
  refine zr_get X K (C := RX1) (T := TX1) (N := 3) (k := 2) (mB hb (by decide)) rfl rfl ti_1 (by decide) rfl tw_84 rfl dX1_send_1 ?_
  refine zr_iloadn X dX1_send_4 rfl ?_
  refine zr_dup2 X dX1_send_5 rfl rfl ?_
  refine zr_iald X K (n := 80) (mB hb (by decide)) rfl (by decide) (by omega) dX1_send_6 ?_
  refine zr_aloadn X dX1_send_7 rfl ?_
  refine zr_get X K (C := RX1) (T := TX1) (N := 3) (k := 0) (mB hb (by decide)) rfl rfl ti_1 (by decide) rfl tw_80 rfl dX1_send_8 ?_
  refine zr_getN X K (C := RX4) (T := TX4) (N := 6) (k := 2) mF_0_0 rfl rfl ti_4 (by decide) rfl tn_43 rfl dX1_send_11 ?_
  refine zr_iloadn X dX1_send_14 rfl ?_
  refine zr_iald X K (n := 80) mF_0_2 rfl (by decide) (by omega) dX1_send_15 ?_
  refine zr_iloadn X dX1_send_16 rfl ?_
  refine zr_icmp_ne X 24 dX1_send_17 (by decide) ⟨by omega, by omega⟩ ⟨by omega, by omega⟩ (fun t_17 => ?_) (fun f_17 => ?_)
  · refine zr_iloadn X dX1_send_24 rfl ?_
    refine zr_ineg X dX1_send_25 ?_
    refine zr_iadd X dX1_send_26 ?_
    refine zr_iast X K (n := 80) (mB hb (by decide)) (fun _ => rfl) rfl (by decide) (by omega) dX1_send_27 ?_
    refine zr_vret X hr dX1_send_28 ?_
    split <;> first | rfl | (exfalso; omega)
  · refine zr_iloadn X dX1_send_20 rfl ?_
    refine zr_goto X 26 dX1_send_21 (by decide) ?_
    refine zr_iadd X dX1_send_26 ?_
    refine zr_iast X K (n := 80) (mB hb (by decide)) (fun _ => rfl) rfl (by decide) (by omega) dX1_send_27 ?_
    refine zr_vret X hr dX1_send_28 ?_
    split <;> first | rfl | (exfalso; omega)

def otF (σ : Mem) (a v : Int) : Int := if σ (0, 2) a = v then σ (0, 3) a else σ (0, 2) a

set_option maxHeartbeats 4000000 in
set_option maxRecDepth 100000 in
theorem c_X4_otherEnd (l : Launch) (D : va_G) (cs : Nat → ClassId) (ad : Ix → Nat) (hap : Apart idsF ad) {σ : Mem} (hN : NetOk σ) {a v : Int} (ha : 0 ≤ a ∧ a < σ (0, 1) 0) (hv : 0 ≤ v ∧ v < 24) : CI l D cs idsF ad yX4_otherEnd cX4_otherEnd 3 .int 0 [(.ref (ad (0, 0))), (jI a), (jI v)] σ (fun z τ => τ = σ ∧ z = otF σ a v) := by
  refine CI.of RX4 hap idsF_nd (by decide) rfl (Nat.le_of_ble_eq_true rfl) ?_
  intro pg ev s0 mi av bl mt cd X K hr
  have hA := hN.2.1
  have hn := hN.1
  have ht := (hN.2.2 a ha.1 ha.2).1
  have hh := (hN.2.2 a ha.1 ha.2).2.1
  refine zr_aloadn X dX4_otherEnd_0 rfl ?_
  refine zr_get X K (C := RX4) (T := TX4) (N := 6) (k := 2) mF_0_0 rfl rfl ti_4 (by decide) rfl tw_42 rfl dX4_otherEnd_1 ?_
  refine zr_iloadn X dX4_otherEnd_4 rfl ?_
  refine zr_iald X K (n := 80) mF_0_2 rfl (by decide) (by omega) dX4_otherEnd_5 ?_
  refine zr_iloadn X dX4_otherEnd_6 rfl ?_
  refine zr_icmp_ne X 19 dX4_otherEnd_7 (by decide) ⟨by omega, by omega⟩ ⟨by omega, by omega⟩ (fun t_7 => ?_) (fun f_7 => ?_)
  · refine zr_aloadn X dX4_otherEnd_19 rfl ?_
    refine zr_get X K (C := RX4) (T := TX4) (N := 6) (k := 2) mF_0_0 rfl rfl ti_4 (by decide) rfl tw_42 rfl dX4_otherEnd_20 ?_
    refine zr_iloadn X dX4_otherEnd_23 rfl ?_
    refine zr_iald X K (n := 80) mF_0_2 rfl (by decide) (by omega) dX4_otherEnd_24 ?_
    refine zr_iret X hr dX4_otherEnd_25 ?_
    exact ⟨rfl, by unfold otF; split <;> first | rfl | (exfalso; omega)⟩
  · refine zr_aloadn X dX4_otherEnd_10 rfl ?_
    refine zr_get X K (C := RX4) (T := TX4) (N := 6) (k := 3) mF_0_0 rfl rfl ti_4 (by decide) rfl tw_46 rfl dX4_otherEnd_11 ?_
    refine zr_iloadn X dX4_otherEnd_14 rfl ?_
    refine zr_iald X K (n := 80) mF_0_3 rfl (by decide) (by omega) dX4_otherEnd_15 ?_
    refine zr_goto X 25 dX4_otherEnd_16 (by decide) ?_
    refine zr_iret X hr dX4_otherEnd_25 ?_
    exact ⟨rfl, by unfold otF; split <;> first | rfl | (exfalso; omega)⟩
end
section
/-! WHAT CAN BE REACHED: the mathematics -/
theorem ite0 {c : Prop} [Decidable c] (h : (if c then (1 : Int) else 0) = 0) : ¬ c := fun hc => by rw [if_pos hc] at h; exact absurd h (by decide)
theorem ite1 {c : Prop} [Decidable c] (h : ¬ (if c then (1 : Int) else 0) = 0) : c := Decidable.byContradiction fun hc => h (if_neg hc)
theorem ite01 {c : Prop} [Decidable c] : rg (if c then (1 : Int) else 0) := by split <;> exact ⟨by decide, by decide⟩
def inS (X Y : Int → Bool) : Prop := ∀ v, 0 ≤ v → X v = true → Y v = true
theorem inS.rf {X : Int → Bool} : inS X X := fun _ _ h => h
theorem inS.tr {X Y Z : Int → Bool} (h : inS X Y) (k : inS Y Z) : inS X Z := fun v hv hx => k v hv (h v hv hx)
/-- over the arcs below k, what has room leads from X into Y -/
def stp (σ : Mem) (b : Nat) (X Y : Int → Bool) (k : Int) : Prop := ∀ a, 0 ≤ a → a < k → (X (σ (0, 2) a) = true → 0 < rmF σ b a (σ (0, 2) a) → Y (σ (0, 3) a) = true) ∧ (X (σ (0, 3) a) = true → 0 < rmF σ b a (σ (0, 3) a) → Y (σ (0, 2) a) = true)
def clo (σ : Mem) (b : Nat) (X : Int → Bool) : Prop := stp σ b X X (σ (0, 1) 0)
def mk24 (w : Int) : Prop := 0 ≤ w ∧ w < 16777216
def wnI (σ : Mem) (b : Nat) (q w i : Int) : Prop := mk24 w ∧ inS (bt q) (bt w) ∧ (∀ X, clo σ b X → inS (bt q) X → inS (bt w) X) ∧ stp σ b (bt q) (bt w) i
/-- a half of a step: over one arc, from one of its ends -/
def hlf (σ : Mem) (b : Nat) (i w w1 x y : Int) : Prop := mk24 w1 ∧ inS (bt w) (bt w1) ∧ (∀ X, clo σ b X → inS (bt w) X → inS (bt w1) X) ∧ (bt w x = true → 0 < rmF σ b i x → bt w1 y = true)
theorem hlf_no {σ : Mem} {b : Nat} {i w x y : Int} (hw : mk24 w) (h : bt w x = true → 0 < rmF σ b i x → False) : hlf σ b i w w x y := ⟨hw, inS.rf, fun _ _ h => h, fun h1 h2 => (h h1 h2).elim⟩
theorem hlf_yes {σ : Mem} {b : Nat} {i w x y : Int} (hw : mk24 w) (hy : 0 ≤ y ∧ y < 24) (hx : 0 ≤ x) (h1 : bt w x = true) (hc : ∀ X : Int → Bool, clo σ b X → X x = true → X y = true) : hlf σ b i w (oI w (pI y)) x y := by
  refine ⟨oI_lt hw.2 (pI_rg hy.2).2, fun v _ h => by rw [bt_o, h]; rfl, fun X hX hS v hv h => ?_, fun _ _ => by rw [bt_o, bt_p hy.1 hy.1]; simp⟩
  rw [bt_o, Bool.or_eq_true] at h
  rcases h with h | h
  · exact hS v hv h
  · rw [bt_p hy.1 hv] at h
    have : y = v := of_decide_eq_true h
    subst this
    exact hc X hX (hS x hx h1)
theorem wnI_step {σ : Mem} {b : Nat} {q w w1 w2 i : Int} (hN : NetOk σ) (hi : 0 ≤ i ∧ i < σ (0, 1) 0) (h : wnI σ b q w i) (h1 : hlf σ b i w w1 (σ (0, 2) i) (σ (0, 3) i)) (h2 : hlf σ b i w1 w2 (σ (0, 3) i) (σ (0, 2) i)) : wnI σ b q w2 (i + 1) := by
  obtain ⟨-, a2, a3, a4⟩ := h
  obtain ⟨-, b2, b3, b4⟩ := h1
  obtain ⟨c1, c2, c3, c4⟩ := h2
  refine ⟨c1, (a2.tr b2).tr c2, fun X hX hS => c3 X hX (b3 X hX (a3 X hX hS)), fun a ha hk => ?_⟩
  obtain ⟨⟨t1, -⟩, ⟨t2, -⟩, -⟩ := hN.2.2 a ha (by omega)
  by_cases e : a = i
  · subst e
    exact ⟨fun k1 k2 => c2 _ t2 (b4 (a2 _ t1 k1) k2), fun k1 k2 => c4 (b2 _ t2 (a2 _ t2 k1)) k2⟩
  · have hlt : a < i := by omega
    exact ⟨fun k1 k2 => (b2.tr c2) _ t2 ((a4 a ha hlt).1 k1 k2), fun k1 k2 => (b2.tr c2) _ t1 ((a4 a ha hlt).2 k1 k2)⟩
theorem wnI_0 {σ : Mem} {b : Nat} {q : Int} (hq : mk24 q) : wnI σ b q q 0 := ⟨hq, inS.rf, fun _ _ h => h, fun a h1 h2 => by omega⟩
theorem clo_tl {σ : Mem} {b : Nat} {i : Int} (hi : 0 ≤ i ∧ i < σ (0, 1) 0) (hr : 0 < rmF σ b i (σ (0, 2) i)) : ∀ X : Int → Bool, clo σ b X → X (σ (0, 2) i) = true → X (σ (0, 3) i) = true := fun _ hX hx => (hX i hi.1 hi.2).1 hx hr
theorem clo_hd {σ : Mem} {b : Nat} {i : Int} (hi : 0 ≤ i ∧ i < σ (0, 1) 0) (hr : 0 < rmF σ b i (σ (0, 3) i)) : ∀ X : Int → Bool, clo σ b X → X (σ (0, 3) i) = true → X (σ (0, 2) i) = true := fun _ hX hx => (hX i hi.1 hi.2).2 hx hr
/-- the answer of one round -/
def wnP (σ : Mem) (b : Nat) (q z : Int) : Prop := mk24 z ∧ inS (bt q) (bt z) ∧ (∀ X, clo σ b X → inS (bt q) X → inS (bt z) X) ∧ (z = q → clo σ b (bt z))
theorem wnI_end {σ : Mem} {b : Nat} {q w i : Int} (h : wnI σ b q w i) (hi : σ (0, 1) 0 ≤ i) : wnP σ b q w := ⟨h.1, h.2.1, h.2.2.1, fun e => by
  subst e
  exact fun a h1 h2 => h.2.2.2 a h1 (by omega)⟩
/-- how many nodes a mask has -/
def ctB (p : Int → Bool) : Nat → Nat
  | 0 => 0
  | n + 1 => ctB p n + (if p (n : Int) = true then 1 else 0)
theorem ctB_le (p : Int → Bool) : ∀ n, ctB p n ≤ n
  | 0 => Nat.le_refl 0
  | n + 1 => by
    have := ctB_le p n
    unfold ctB
    split <;> omega
theorem ctB_mono {p q : Int → Bool} (h : inS p q) : ∀ n, ctB p n ≤ ctB q n
  | 0 => Nat.le_refl 0
  | n + 1 => by
    have := ctB_mono h n
    unfold ctB
    by_cases h1 : p (n : Int) = true
    · rw [if_pos h1, if_pos (h _ (by omega) h1)]; omega
    · rw [if_neg h1]; omega
theorem ctB_lt {p q : Int → Bool} (h : inS p q) {v : Nat} (h1 : q (v : Int) = true) (h2 : ¬ p (v : Int) = true) : ∀ n, v < n → ctB p n < ctB q n
  | 0, hv => absurd hv (Nat.not_lt_zero v)
  | n + 1, hv => by
    unfold ctB
    by_cases e : v = n
    · subst e
      rw [if_pos h1, if_neg h2]
      have := ctB_mono h v
      omega
    · have := ctB_lt h h1 h2 n (by omega)
      by_cases h3 : p (n : Int) = true
      · rw [if_pos h3, if_pos (h _ (by omega) h3)]; omega
      · rw [if_neg h3]; omega
theorem ctB_below {p : Int → Bool} {k : Nat} (h : ∀ v : Nat, k ≤ v → ¬ p (v : Int) = true) : ∀ n, ctB p n ≤ k
  | 0 => Nat.zero_le k
  | n + 1 => by
    by_cases hk : n + 1 ≤ k
    · exact Nat.le_trans (ctB_le p (n + 1)) hk
    · unfold ctB
      rw [if_neg (h n (by omega))]
      exact ctB_below h n
theorem ctB_one {p : Int → Bool} {v : Nat} (h : p (v : Int) = true) {n : Nat} (hv : v < n) : 1 ≤ ctB p n := by
  have h0 : ∀ n, ctB (fun _ => false) n = 0 := fun n => by
    induction n with
    | zero => rfl
    | succ n ih => unfold ctB; rw [ih]; rfl
  have := ctB_lt (p := fun _ => false) (q := p) (fun _ _ h => by cases h) h (by simp) n hv
  rw [h0] at this
  omega
/-- the answer: the least closed set with the start -/
def rcP (σ : Mem) (b : Nat) (x z : Int) : Prop := mk24 z ∧ bt z x = true ∧ clo σ b (bt z) ∧ ∀ X, clo σ b X → X x = true → inS (bt z) X
def rcI (σ : Mem) (b : Nat) (x q f k : Int) : Prop := mk24 q ∧ mk24 f ∧ bt q x = true ∧ (∀ X, clo σ b X → X x = true → inS (bt q) X) ∧ (q = f → clo σ b (bt q)) ∧ (q ≠ f → k + 1 ≤ ctB (bt q) 24) ∧ 0 ≤ k ∧ k ≤ σ (0, 0) 0
theorem clo_nodes {σ : Mem} {b : Nat} (hN : NetOk σ) : clo σ b (fun v => decide (v < σ (0, 0) 0)) := fun a h1 h2 => by
  obtain ⟨⟨-, t1⟩, ⟨-, t2⟩, -⟩ := hN.2.2 a h1 h2
  exact ⟨fun _ _ => decide_eq_true t2, fun _ _ => decide_eq_true t1⟩
theorem rcI_0 {σ : Mem} {b : Nat} {x : Int} (hN : NetOk σ) (hx : 0 ≤ x ∧ x < σ (0, 0) 0) : rcI σ b x (pI x) 0 0 := by
  have hn := hN.1
  have h1 : bt (pI x) x = true := by rw [bt_p hx.1 hx.1]; simp
  refine ⟨pI_rg (by omega), ⟨by decide, by decide⟩, h1, fun X _ hX v hv h => ?_, fun e => ?_, fun _ => ?_, by omega, by omega⟩
  · rw [bt_p hx.1 hv] at h
    have : x = v := of_decide_eq_true h
    rw [← this]; exact hX
  · rw [e] at h1
    exact absurd h1 (by unfold bt; simp)
  · have := ctB_one (p := bt (pI x)) (v := x.toNat) (by rw [Int.toNat_of_nonneg hx.1]; exact h1) (n := 24) (by omega)
    omega
theorem rcI_step {σ : Mem} {b : Nat} {x q f k z : Int} (h : rcI σ b x q f k) (hqf : q ≠ f) (hk : k < σ (0, 0) 0) (hz : wnP σ b q z) : rcI σ b x z q (k + 1) := by
  obtain ⟨a1, a2, a3, a4, a5, a6, a7, a8⟩ := h
  obtain ⟨b1, b2, b3, b4⟩ := hz
  have hx0 : ∀ X, clo σ b X → X x = true → inS (bt z) X := fun X hX hx => b3 X hX (a4 X hX hx)
  refine ⟨b1, a1, ?_, hx0, b4, fun hne => ?_, by omega, by omega⟩
  · by_cases hxx : 0 ≤ x
    · exact b2 x hxx a3
    · have hx' : x.toNat = 0 := by omega
      have h3 : bt q 0 = true := by unfold bt at a3 ⊢; rw [hx'] at a3; exact a3
      have h4 := b2 0 (by omega) h3
      unfold bt at h4 ⊢; rw [hx']; exact h4
  · have h6 := a6 hqf
    have : ∃ v : Nat, v < 24 ∧ bt z (v : Int) = true ∧ ¬ bt q (v : Int) = true := by
      apply Classical.byContradiction
      intro hno
      apply hne
      refine bt_ext b1.1 a1.1 (fun v hv => ?_)
      by_cases hv24 : v < 24
      · by_cases h1 : bt q v = true
        · rw [h1, b2 v hv h1]
        · by_cases h2 : bt z v = true
          · exact (hno ⟨v.toNat, by omega, by rw [Int.toNat_of_nonneg hv]; exact h2, by rw [Int.toNat_of_nonneg hv]; exact h1⟩).elim
          · rw [Bool.eq_false_iff.mpr h1, Bool.eq_false_iff.mpr h2]
      · rw [bt_big b1.2 (by omega), bt_big a1.2 (by omega)]
    obtain ⟨v, h1, h2, h3⟩ := this
    have := ctB_lt b2 h2 h3 24 h1
    omega
theorem rcI_end {σ : Mem} {b : Nat} {x q f k : Int} (hN : NetOk σ) (hx : 0 ≤ x ∧ x < σ (0, 0) 0) (h : rcI σ b x q f k) (he : q = f ∨ σ (0, 0) 0 ≤ k) : rcP σ b x q := by
  obtain ⟨a1, a2, a3, a4, a5, a6, a7, a8⟩ := h
  refine ⟨a1, a3, ?_, a4⟩
  by_cases e : q = f
  · exact a5 e
  · exfalso
    have h6 := a6 e
    have hin := a4 _ (clo_nodes hN) (decide_eq_true hx.2)
    have := ctB_below (p := bt q) (k := (σ (0, 0) 0).toNat) (fun v hv h1 => by
      have := of_decide_eq_true (hin (v : Int) (by omega) h1)
      omega) 24
    rcases he with he | he
    · exact e he
    · omega
/-- least closed sets are one -/
theorem rcP_one {σ : Mem} {b : Nat} {x z y : Int} (h : rcP σ b x z) (k : rcP σ b x y) : z = y := bt_ext h.1.1 k.1.1 fun v hv => by
  by_cases h1 : bt z v = true
  · rw [h1, h.2.2.2 _ k.2.2.1 k.2.1 v hv h1]
  · by_cases h2 : bt y v = true
    · exact absurd (k.2.2.2 _ h.2.2.1 h.2.1 v hv h2) h1
    · rw [Bool.eq_false_iff.mpr h1, Bool.eq_false_iff.mpr h2]
theorem rcP_nodes {σ : Mem} {b : Nat} {x z : Int} (hN : NetOk σ) (hx : x < σ (0, 0) 0) (h : rcP σ b x z) {v : Int} (hv : 0 ≤ v) (h1 : bt z v = true) : v < σ (0, 0) 0 := of_decide_eq_true (h.2.2.2 _ (clo_nodes hN) (decide_eq_true hx) v hv h1)
/-- sums over the first places -/
def sm (f : Int → Int) : Nat → Int
  | 0 => 0
  | n + 1 => sm f n + f (n : Int)
theorem sm_cong {f g : Int → Int} : ∀ {n : Nat}, (∀ a : Int, 0 ≤ a → a < n → f a = g a) → sm f n = sm g n
  | 0, _ => rfl
  | n + 1, h => by
    unfold sm
    rw [sm_cong (n := n) (fun a h1 h2 => h a h1 (by omega)), h (n : Int) (by omega) (by omega)]
theorem sm_add (f g : Int → Int) : ∀ n, sm (fun a => f a + g a) n = sm f n + sm g n
  | 0 => rfl
  | n + 1 => by
    have := sm_add f g n
    unfold sm
    omega
theorem sm_sub (f g : Int → Int) : ∀ n, sm (fun a => f a - g a) n = sm f n - sm g n
  | 0 => rfl
  | n + 1 => by
    have := sm_sub f g n
    unfold sm
    omega
theorem sm_le {f g : Int → Int} : ∀ {n : Nat}, (∀ a : Int, 0 ≤ a → a < n → f a ≤ g a) → sm f n ≤ sm g n
  | 0, _ => Int.le_refl 0
  | n + 1, h => by
    have h1 := sm_le (n := n) (fun a h1 h2 => h a h1 (by omega))
    have h2 := h (n : Int) (by omega) (by omega)
    unfold sm
    omega
theorem sm_zero : ∀ n, sm (fun _ => 0) n = 0
  | 0 => rfl
  | n + 1 => by unfold sm; rw [sm_zero n]; rfl
theorem sm_const (c : Int) : ∀ n : Nat, sm (fun _ => c) n = n * c
  | 0 => by simp [sm]
  | n + 1 => by
    unfold sm
    rw [sm_const c n, Int.natCast_succ, Int.add_mul, Int.one_mul]
theorem sm_upd (f : Int → Int) {i x : Int} (hi : 0 ≤ i) : ∀ {n : Nat}, i < n → sm (fun a => if a = i then x else f a) n = sm f n - f i + x
  | 0, h => by omega
  | n + 1, h => by
    unfold sm
    by_cases e : i = (n : Int)
    · subst e
      rw [if_pos rfl, sm_cong (g := f) (fun a h1 h2 => if_neg (by omega))]
      omega
    · rw [sm_upd f hi (n := n) (by omega), if_neg (by omega)]
      omega
theorem sm_upd_out (f : Int → Int) {i x : Int} {n : Nat} (h : (n : Int) ≤ i ∨ i < 0) : sm (fun a => if a = i then x else f a) n = sm f n := sm_cong fun a h1 h2 => if_neg (by omega)
theorem sm_succ {f : Int → Int} {i : Int} (hi : 0 ≤ i) : sm f (i + 1).toNat = sm f i.toNat + f i := by
  have : (i + 1).toNat = i.toNat + 1 := by omega
  rw [this]
  show sm f i.toNat + f (i.toNat : Int) = _
  rw [Int.toNat_of_nonneg hi]
theorem sm_eq_le {f g : Int → Int} : ∀ {n : Nat}, (∀ a : Int, 0 ≤ a → a < n → f a ≤ g a) → sm f n = sm g n → ∀ a : Int, 0 ≤ a → a < n → f a = g a
  | 0, _, _, a, h1, h2 => by omega
  | n + 1, h, he, a, h1, h2 => by
    have h3 := sm_le (n := n) (fun a h1 h2 => h a h1 (by omega))
    have h4 := h (n : Int) (by omega) (by omega)
    unfold sm at he
    by_cases e : a = (n : Int)
    · subst e; omega
    · exact sm_eq_le (n := n) (fun a h1 h2 => h a h1 (by omega)) (by omega) a h1 (by omega)
end
section
/-! FLOW: what is reached, what leads out -/

theorem rmF_rg {σ : Mem} {b : Nat} (hF : FlOk σ b) {a v : Int} (ha : 0 ≤ a ∧ a < σ (0, 1) 0) : 0 ≤ rmF σ b a v ∧ rmF σ b a v ≤ 100000000 := by
  have h := hF a ha.1 ha.2
  unfold rmF
  split <;> omega
theorem rmF_rg' {σ : Mem} {b : Nat} (hF : FlOk σ b) {a v : Int} (ha : 0 ≤ a ∧ a < σ (0, 1) 0) : rg (rmF σ b a v) := by
  have h := rmF_rg hF (v := v) ha
  exact ⟨by omega, by omega⟩

set_option maxHeartbeats 4000000 in
set_option maxRecDepth 100000 in
theorem c_X1_withNeighbours (l : Launch) (D : va_G) (cs : Nat → ClassId) (ad : Ix → Nat) (hap : Apart idsF ad) {b : Nat} (hb : b < 2) {σ : Mem} (hN : NetOk σ) (hF : FlOk σ b) {q : Int} (hq : mk24 q) : CI l D cs idsF ad yX1_withNeighbours cX1_withNeighbours 6 .int 1 [(.ref (ad (b + 6, 1))), (jI q)] σ (fun z τ => τ = σ ∧ wnP σ b q z) := by
  refine CI.of RX1 hap idsF_nd (by decide) rfl (Nat.le_of_ble_eq_true rfl) ?_
  intro pg ev s0 mi av bl mt cd X K hr
  have hA := hN.2.1
  have hn := hN.1
  refine zr_iloadn X dX1_withNeighbours_0 rfl ?_
  refine zr_istoren X dX1_withNeighbours_1 (by decide) rfl ?_
  refine zr_iconst X dX1_withNeighbours_2 ?_
  refine zr_istoren X dX1_withNeighbours_3 (by decide) rfl ?_
  have loop_4 : ∀ (n_4 : Nat) (w : Int) (i : Int), ((0 ≤ i ∧ i ≤ σ (0, 1) 0) ∧ wnI σ b q w i) → (σ (0, 1) 0 - i).toNat < n_4 → Wx pg l ev (rmm 1 0 0) s0 mi av bl mt cd D cs idsF ad (Rg idsF ad) s0.heap 6 (MQ bl (qI D cs idsF ad ((fun z τ => τ = σ ∧ wnP σ b q z))) av s0 0 0 (Rg idsF ad)) 0 0 σ 4 [some (.ref (ad (b + 6, 1))), some (jI q), some (jI w), some (jI i), none, none] [] := by
    intro n_4
    induction n_4 with
    | zero => exact fun w i hinv hn => absurd hn (Nat.not_lt_zero _)
    | succ n_4 ih_4 =>
      intro w i hI_4 hn_4
      have hw := hI_4.2.1
      have hi0 := hI_4.1
      refine zr_iloadn X dX1_withNeighbours_4 rfl ?_
      refine zr_aloadn X dX1_withNeighbours_5 rfl ?_
      refine zr_get X K (C := RX1) (T := TX1) (N := 3) (k := 0) (mB hb (by decide)) rfl rfl ti_1 (by decide) rfl tw_80 rfl dX1_withNeighbours_6 ?_
      refine zr_getN X K (C := RX4) (T := TX4) (N := 6) (k := 1) mF_0_0 rfl rfl ti_4 (by decide) rfl tn_40 rfl dX1_withNeighbours_9 ?_
      refine zr_icmp_ge X 95 dX1_withNeighbours_12 (by decide) ⟨by omega, by omega⟩ ⟨by omega, by omega⟩ (fun t_12 => ?_) (fun f_12 => ?_)
      · refine zr_iloadn X dX1_withNeighbours_95 rfl ?_
        refine zr_iret X hr dX1_withNeighbours_96 ?_
        exact ⟨rfl, wnI_end hI_4.2 (by omega)⟩
      · have hi : 0 ≤ i ∧ i < σ (0, 1) 0 := ⟨by omega, by omega⟩
        have ht := (hN.2.2 i hi.1 hi.2).1
        have hh := (hN.2.2 i hi.1 hi.2).2.1
        refine zr_aloadn X dX1_withNeighbours_15 rfl ?_
        refine zr_get X K (C := RX1) (T := TX1) (N := 3) (k := 0) (mB hb (by decide)) rfl rfl ti_1 (by decide) rfl tw_80 rfl dX1_withNeighbours_16 ?_
        refine zr_getN X K (C := RX4) (T := TX4) (N := 6) (k := 2) mF_0_0 rfl rfl ti_4 (by decide) rfl tn_43 rfl dX1_withNeighbours_19 ?_
        refine zr_iloadn X dX1_withNeighbours_22 rfl ?_
        refine zr_iald X K (n := 80) mF_0_2 rfl (by decide) (by omega) dX1_withNeighbours_23 ?_
        refine zr_istore X dX1_withNeighbours_24 (by decide) rfl ?_
        refine zr_aloadn X dX1_withNeighbours_26 rfl ?_
        refine zr_get X K (C := RX1) (T := TX1) (N := 3) (k := 0) (mB hb (by decide)) rfl rfl ti_1 (by decide) rfl tw_80 rfl dX1_withNeighbours_27 ?_
        refine zr_getN X K (C := RX4) (T := TX4) (N := 6) (k := 3) mF_0_0 rfl rfl ti_4 (by decide) rfl tn_48 rfl dX1_withNeighbours_30 ?_
        refine zr_iloadn X dX1_withNeighbours_33 rfl ?_
        refine zr_iald X K (n := 80) mF_0_3 rfl (by decide) (by omega) dX1_withNeighbours_34 ?_
        refine zr_istore X dX1_withNeighbours_35 (by decide) rfl ?_
        refine zr_iloadn X dX1_withNeighbours_37 rfl ?_
        refine zr_iload X dX1_withNeighbours_38 rfl ?_
        refine zr_callSNI X K (st := []) (c_X6_contains l D cs ad hap (m := w) (v := σ (0, 2) i) ⟨hw.1, by have := hw.2; omega⟩ ⟨by omega, by omega⟩) ⟨tn_474, tw_467, tw_1, tw_468⟩ dc_X6_contains rfl rfl (Nat.le_of_ble_eq_true rfl) (by decide) dX1_withNeighbours_40 ?_
        intro z_ τ_ hp_
        obtain ⟨hτ_, hz_⟩ := hp_
        subst τ_
        subst z_
        have join_63 : ∀ (w1 : Int), (hlf σ b i w w1 (σ (0, 2) i) (σ (0, 3) i)) → Wx pg l ev (rmm 1 0 0) s0 mi av bl mt cd D cs idsF ad (Rg idsF ad) s0.heap 6 (MQ bl (qI D cs idsF ad ((fun z τ => τ = σ ∧ wnP σ b q z))) av s0 0 0 (Rg idsF ad)) 0 0 σ 63 [some (.ref (ad (b + 6, 1))), some (jI q), some (jI w1), some (jI i), some (jI (σ (0, 2) i)), some (jI (σ (0, 3) i))] [] := by
          intro w1 hJ_63
          have hw1 := hJ_63.1
          refine zr_iloadn X dX1_withNeighbours_63 rfl ?_
          refine zr_iload X dX1_withNeighbours_64 rfl ?_
          refine zr_callSNI X K (st := []) (c_X6_contains l D cs ad hap (m := w1) (v := σ (0, 3) i) ⟨hw1.1, by have := hw1.2; omega⟩ ⟨by omega, by omega⟩) ⟨tn_474, tw_467, tw_1, tw_468⟩ dc_X6_contains rfl rfl (Nat.le_of_ble_eq_true rfl) (by decide) dX1_withNeighbours_66 ?_
          intro z_ τ_ hp_
          obtain ⟨hτ_, hz_⟩ := hp_
          subst τ_
          subst z_
          refine zr_if_eq X 89 dX1_withNeighbours_69 (by decide) ite01 (fun t_69 => ?_) (fun f_69 => ?_)
          · refine zr_iinc X dX1_withNeighbours_89 rfl (by decide) rfl ?_
            refine zr_goto X 4 dX1_withNeighbours_92 (by decide) ?_
            refine Wx.weak (lo' := [some (.ref (ad (b + 6, 1))), some (jI q), some (jI w1), some (jI (i + 1)), none, none]) ⟨rfl, rfl, rfl, rfl, trivial⟩ ?_
            exact ih_4 _ _ ⟨⟨by omega, by omega⟩, wnI_step hN hi hI_4.2 hJ_63 (hlf_no hw1 (fun h1 h2 => by first | exact ite0 t_69 h1 | omega))⟩ (by omega)
          · refine zr_aloadn X dX1_withNeighbours_72 rfl ?_
            refine zr_iloadn X dX1_withNeighbours_73 rfl ?_
            refine zr_iload X dX1_withNeighbours_74 rfl ?_
            refine zr_callVI X K (q := (RX1, TX1, 3)) (st := []) (c_X1_room l D cs ad hap hb hN (a := i) (v := σ (0, 3) i) hi ⟨by omega, by omega⟩) ⟨tw_491, tw_320, tp_8, tw_4, tw_321⟩ dc_X1_room (mB hb (by decide)) rfl rfl rfl rfl rfl (Nat.le_of_ble_eq_true rfl) (by decide) dX1_withNeighbours_76 ?_
            intro z_ τ_ hp_
            obtain ⟨hτ_, hz_⟩ := hp_
            subst τ_
            subst z_
            refine zr_if_le X 89 dX1_withNeighbours_79 (by decide) (rmF_rg' hF hi) (fun t_79 => ?_) (fun f_79 => ?_)
            · refine zr_iinc X dX1_withNeighbours_89 rfl (by decide) rfl ?_
              refine zr_goto X 4 dX1_withNeighbours_92 (by decide) ?_
              refine Wx.weak (lo' := [some (.ref (ad (b + 6, 1))), some (jI q), some (jI w1), some (jI (i + 1)), none, none]) ⟨rfl, rfl, rfl, rfl, trivial⟩ ?_
              exact ih_4 _ _ ⟨⟨by omega, by omega⟩, wnI_step hN hi hI_4.2 hJ_63 (hlf_no hw1 (fun h1 h2 => by first | exact ite0 t_69 h1 | omega))⟩ (by omega)
            · refine zr_iloadn X dX1_withNeighbours_82 rfl ?_
              refine zr_iconst X dX1_withNeighbours_83 ?_
              refine zr_iload X dX1_withNeighbours_84 rfl ?_
              refine zr_ishl X dX1_withNeighbours_86 (zb_shl (by omega) (by omega)) ?_
              refine zr_ior X dX1_withNeighbours_87 (zb_or hw1.1 (pI_rg (by omega)).1) ?_
              refine zr_istoren X dX1_withNeighbours_88 (by decide) rfl ?_
              refine zr_iinc X dX1_withNeighbours_89 rfl (by decide) rfl ?_
              refine zr_goto X 4 dX1_withNeighbours_92 (by decide) ?_
              refine Wx.weak (lo' := [some (.ref (ad (b + 6, 1))), some (jI q), some (jI (oI w1 (pI (σ (0, 2) i)))), some (jI (i + 1)), none, none]) ⟨rfl, rfl, rfl, rfl, trivial⟩ ?_
              exact ih_4 _ _ ⟨⟨by omega, by omega⟩, wnI_step hN hi hI_4.2 hJ_63 (hlf_yes hw1 ⟨by omega, by omega⟩ (by omega) (ite1 f_69) (clo_hd hi (by omega)))⟩ (by omega)
        refine zr_if_eq X 63 dX1_withNeighbours_43 (by decide) ite01 (fun t_43 => ?_) (fun f_43 => ?_)
        · refine Wx.weak (lo' := [some (.ref (ad (b + 6, 1))), some (jI q), some (jI w), some (jI i), some (jI (σ (0, 2) i)), some (jI (σ (0, 3) i))]) ⟨rfl, rfl, rfl, rfl, rfl, rfl, trivial⟩ ?_
          exact join_63 _ (hlf_no hw (fun h1 h2 => by first | exact ite0 t_43 h1 | omega))
        · refine zr_aloadn X dX1_withNeighbours_46 rfl ?_
          refine zr_iloadn X dX1_withNeighbours_47 rfl ?_
          refine zr_iload X dX1_withNeighbours_48 rfl ?_
          refine zr_callVI X K (q := (RX1, TX1, 3)) (st := []) (c_X1_room l D cs ad hap hb hN (a := i) (v := σ (0, 2) i) hi ⟨by omega, by omega⟩) ⟨tw_491, tw_320, tp_8, tw_4, tw_321⟩ dc_X1_room (mB hb (by decide)) rfl rfl rfl rfl rfl (Nat.le_of_ble_eq_true rfl) (by decide) dX1_withNeighbours_50 ?_
          intro z_ τ_ hp_
          obtain ⟨hτ_, hz_⟩ := hp_
          subst τ_
          subst z_
          refine zr_if_le X 63 dX1_withNeighbours_53 (by decide) (rmF_rg' hF hi) (fun t_53 => ?_) (fun f_53 => ?_)
          · refine Wx.weak (lo' := [some (.ref (ad (b + 6, 1))), some (jI q), some (jI w), some (jI i), some (jI (σ (0, 2) i)), some (jI (σ (0, 3) i))]) ⟨rfl, rfl, rfl, rfl, rfl, rfl, trivial⟩ ?_
            exact join_63 _ (hlf_no hw (fun h1 h2 => by first | exact ite0 t_43 h1 | omega))
          · refine zr_iloadn X dX1_withNeighbours_56 rfl ?_
            refine zr_iconst X dX1_withNeighbours_57 ?_
            refine zr_iload X dX1_withNeighbours_58 rfl ?_
            refine zr_ishl X dX1_withNeighbours_60 (zb_shl (by omega) (by omega)) ?_
            refine zr_ior X dX1_withNeighbours_61 (zb_or hw.1 (pI_rg (by omega)).1) ?_
            refine zr_istoren X dX1_withNeighbours_62 (by decide) rfl ?_
            refine Wx.weak (lo' := [some (.ref (ad (b + 6, 1))), some (jI q), some (jI (oI w (pI (σ (0, 3) i)))), some (jI i), some (jI (σ (0, 2) i)), some (jI (σ (0, 3) i))]) ⟨rfl, rfl, rfl, rfl, rfl, rfl, trivial⟩ ?_
            exact join_63 _ (hlf_yes hw ⟨by omega, by omega⟩ (by omega) (ite1 f_43) (clo_tl hi (by omega)))
  refine Wx.weak (lo' := [some (.ref (ad (b + 6, 1))), some (jI q), some (jI q), some (jI 0), none, none]) ⟨rfl, rfl, rfl, rfl, trivial⟩ ?_
  exact loop_4 _ _ _ ⟨⟨by omega, by omega⟩, wnI_0 hq⟩ (Nat.lt_succ_self _)

set_option maxHeartbeats 4000000 in
set_option maxRecDepth 100000 in
theorem c_X1_reachableFrom (l : Launch) (D : va_G) (cs : Nat → ClassId) (ad : Ix → Nat) (hap : Apart idsF ad) {b : Nat} (hb : b < 2) {σ : Mem} (hN : NetOk σ) (hF : FlOk σ b) {x : Int} (hx : 0 ≤ x ∧ x < σ (0, 0) 0) : CI l D cs idsF ad yX1_reachableFrom cX1_reachableFrom 5 .int 2 [(.ref (ad (b + 6, 1))), (jI x)] σ (fun z τ => τ = σ ∧ rcP σ b x z) := by
  refine CI.of RX1 hap idsF_nd (by decide) rfl (Nat.le_of_ble_eq_true rfl) ?_
  intro pg ev s0 mi av bl mt cd X K hr
  have hA := hN.2.1
  have hn := hN.1
  refine zr_iconst X dX1_reachableFrom_0 ?_
  refine zr_iloadn X dX1_reachableFrom_1 rfl ?_
  refine zr_ishl X dX1_reachableFrom_2 (zb_shl (by omega) (by omega)) ?_
  refine zr_istoren X dX1_reachableFrom_3 (by decide) rfl ?_
  refine zr_iconst X dX1_reachableFrom_4 ?_
  refine zr_istoren X dX1_reachableFrom_5 (by decide) rfl ?_
  refine zr_iconst X dX1_reachableFrom_6 ?_
  refine zr_istore X dX1_reachableFrom_7 (by decide) rfl ?_
  have loop_9 : ∀ (n_9 : Nat) (q : Int) (f : Int) (k : Int), (rcI σ b x q f k) → (σ (0, 0) 0 - k).toNat < n_9 → Wx pg l ev (rmm 2 0 0) s0 mi av bl mt cd D cs idsF ad (Rg idsF ad) s0.heap 5 (MQ bl (qI D cs idsF ad ((fun z τ => τ = σ ∧ rcP σ b x z))) av s0 0 0 (Rg idsF ad)) 0 0 σ 9 [some (.ref (ad (b + 6, 1))), some (jI x), some (jI q), some (jI f), some (jI k)] [] := by
    intro n_9
    induction n_9 with
    | zero => exact fun q f k hinv hn => absurd hn (Nat.not_lt_zero _)
    | succ n_9 ih_9 =>
      intro q f k hI_9 hn_9
      have hk := hI_9.2.2.2.2.2.2
      have hq := hI_9.1
      have hf := hI_9.2.1
      refine zr_iload X dX1_reachableFrom_9 rfl ?_
      refine zr_aloadn X dX1_reachableFrom_11 rfl ?_
      refine zr_get X K (C := RX1) (T := TX1) (N := 3) (k := 0) (mB hb (by decide)) rfl rfl ti_1 (by decide) rfl tw_80 rfl dX1_reachableFrom_12 ?_
      refine zr_getN X K (C := RX4) (T := TX4) (N := 6) (k := 0) mF_0_0 rfl rfl ti_4 (by decide) rfl tn_36 rfl dX1_reachableFrom_15 ?_
      refine zr_icmp_ge X 40 dX1_reachableFrom_18 (by decide) ⟨by omega, by omega⟩ ⟨by omega, by omega⟩ (fun t_18 => ?_) (fun f_18 => ?_)
      · refine zr_iloadn X dX1_reachableFrom_40 rfl ?_
        refine zr_iret X hr dX1_reachableFrom_41 ?_
        exact ⟨rfl, rcI_end hN hx hI_9 (by first | exact Or.inl t_23 | exact Or.inr (by omega))⟩
      · refine zr_iloadn X dX1_reachableFrom_21 rfl ?_
        refine zr_iloadn X dX1_reachableFrom_22 rfl ?_
        refine zr_icmp_eq X 40 dX1_reachableFrom_23 (by decide) ⟨by have := hq.1; omega, by have := hq.2; omega⟩ ⟨by have := hf.1; omega, by have := hf.2; omega⟩ (fun t_23 => ?_) (fun f_23 => ?_)
        · refine zr_iloadn X dX1_reachableFrom_40 rfl ?_
          refine zr_iret X hr dX1_reachableFrom_41 ?_
          exact ⟨rfl, rcI_end hN hx hI_9 (by first | exact Or.inl t_23 | exact Or.inr (by omega))⟩
        · refine zr_iloadn X dX1_reachableFrom_26 rfl ?_
          refine zr_istoren X dX1_reachableFrom_27 (by decide) rfl ?_
          refine zr_aloadn X dX1_reachableFrom_28 rfl ?_
          refine zr_iloadn X dX1_reachableFrom_29 rfl ?_
          refine zr_callVI X K (q := (RX1, TX1, 3)) (st := []) (c_X1_withNeighbours l D cs ad hap hb hN hF (q := q) hI_9.1) ⟨tw_487, tw_489, tp_29, tw_4, tw_490⟩ dc_X1_withNeighbours (mB hb (by decide)) rfl rfl rfl rfl rfl (Nat.le_of_ble_eq_true rfl) (by decide) dX1_reachableFrom_30 ?_
          intro z τ hp
          obtain ⟨hτ, hz⟩ := hp
          subst τ
          refine zr_istoren X dX1_reachableFrom_33 (by decide) rfl ?_
          refine zr_iinc X dX1_reachableFrom_34 rfl (by decide) rfl ?_
          refine zr_goto X 9 dX1_reachableFrom_37 (by decide) ?_
          refine Wx.weak (lo' := [some (.ref (ad (b + 6, 1))), some (jI x), some (jI z), some (jI q), some (jI (k + 1))]) ⟨rfl, rfl, rfl, rfl, rfl, trivial⟩ ?_
          exact ih_9 _ _ _ (rcI_step hI_9 f_23 (by omega) hz) (by omega)
  refine Wx.weak (lo' := [some (.ref (ad (b + 6, 1))), some (jI x), some (jI (pI x)), some (jI 0), some (jI 0)]) ⟨rfl, rfl, rfl, rfl, rfl, trivial⟩ ?_
  exact loop_9 _ _ _ _ (rcI_0 hN hx) (Nat.lt_succ_self _)

/-- the sum of the capacities that lead out -/
def coF (σ : Mem) (b : Nat) (q : Int) (a : Int) : Int := if bt q (σ (0, 2) a) && !bt q (σ (0, 3) a) then σ (b + 6, 2) a else 0

set_option maxHeartbeats 4000000 in
set_option maxRecDepth 100000 in
theorem c_X1_capacityOut (l : Launch) (D : va_G) (cs : Nat → ClassId) (ad : Ix → Nat) (hap : Apart idsF ad) {b : Nat} (hb : b < 2) {σ : Mem} (hN : NetOk σ) {q : Int} (hq : mk24 q) : CI l D cs idsF ad yX1_capacityOut cX1_capacityOut 4 .int 1 [(.ref (ad (b + 6, 1))), (jI q)] σ (fun z τ => τ = σ ∧ z = sm (coF σ b q) (σ (0, 1) 0).toNat) := by
  refine CI.of RX1 hap idsF_nd (by decide) rfl (Nat.le_of_ble_eq_true rfl) ?_
  intro pg ev s0 mi av bl mt cd X K hr
  have hA := hN.2.1
  have hn := hN.1
  refine zr_iconst X dX1_capacityOut_0 ?_
  refine zr_istoren X dX1_capacityOut_1 (by decide) rfl ?_
  refine zr_iconst X dX1_capacityOut_2 ?_
  refine zr_istoren X dX1_capacityOut_3 (by decide) rfl ?_
  have loop_4 : ∀ (n_4 : Nat) (i : Int) (y : Int), ((0 ≤ i ∧ i ≤ σ (0, 1) 0) ∧ y = sm (coF σ b q) i.toNat) → (σ (0, 1) 0 - i).toNat < n_4 → Wx pg l ev (rmm 1 0 0) s0 mi av bl mt cd D cs idsF ad (Rg idsF ad) s0.heap 4 (MQ bl (qI D cs idsF ad ((fun z τ => τ = σ ∧ z = sm (coF σ b q) (σ (0, 1) 0).toNat))) av s0 0 0 (Rg idsF ad)) 0 0 σ 4 [some (.ref (ad (b + 6, 1))), some (jI q), some (jI y), some (jI i)] [] := by
    intro n_4
    induction n_4 with
    | zero => exact fun i y hinv hn => absurd hn (Nat.not_lt_zero _)
    | succ n_4 ih_4 =>
      intro i y hI_4 hn_4
      have hi0 := hI_4.1
      have hy := hI_4.2
      refine zr_iloadn X dX1_capacityOut_4 rfl ?_
      refine zr_aloadn X dX1_capacityOut_5 rfl ?_
      refine zr_get X K (C := RX1) (T := TX1) (N := 3) (k := 0) (mB hb (by decide)) rfl rfl ti_1 (by decide) rfl tw_80 rfl dX1_capacityOut_6 ?_
      refine zr_getN X K (C := RX4) (T := TX4) (N := 6) (k := 1) mF_0_0 rfl rfl ti_4 (by decide) rfl tn_40 rfl dX1_capacityOut_9 ?_
      refine zr_icmp_ge X 62 dX1_capacityOut_12 (by decide) ⟨by omega, by omega⟩ ⟨by omega, by omega⟩ (fun t_12 => ?_) (fun f_12 => ?_)
      · refine zr_iloadn X dX1_capacityOut_62 rfl ?_
        refine zr_iret X hr dX1_capacityOut_63 ?_
        exact ⟨rfl, by rw [hy, show i = σ (0, 1) 0 by omega]⟩
      · have hi : 0 ≤ i ∧ i < σ (0, 1) 0 := ⟨by omega, by omega⟩
        have ht := (hN.2.2 i hi.1 hi.2).1
        have hh := (hN.2.2 i hi.1 hi.2).2.1
        refine zr_iloadn X dX1_capacityOut_15 rfl ?_
        refine zr_aloadn X dX1_capacityOut_16 rfl ?_
        refine zr_get X K (C := RX1) (T := TX1) (N := 3) (k := 0) (mB hb (by decide)) rfl rfl ti_1 (by decide) rfl tw_80 rfl dX1_capacityOut_17 ?_
        refine zr_getN X K (C := RX4) (T := TX4) (N := 6) (k := 2) mF_0_0 rfl rfl ti_4 (by decide) rfl tn_43 rfl dX1_capacityOut_20 ?_
        refine zr_iloadn X dX1_capacityOut_23 rfl ?_
        refine zr_iald X K (n := 80) mF_0_2 rfl (by decide) (by omega) dX1_capacityOut_24 ?_
        refine zr_callSNI X K (st := []) (c_X6_contains l D cs ad hap (m := q) (v := σ (0, 2) i) ⟨hq.1, by have := hq.2; omega⟩ ⟨by omega, by omega⟩) ⟨tn_474, tw_467, tw_1, tw_468⟩ dc_X6_contains rfl rfl (Nat.le_of_ble_eq_true rfl) (by decide) dX1_capacityOut_25 ?_
        intro z_ τ_ hp_
        obtain ⟨hτ_, hz_⟩ := hp_
        subst τ_
        subst z_
        refine zr_if_eq X 56 dX1_capacityOut_28 (by decide) ite01 (fun t_28 => ?_) (fun f_28 => ?_)
        · refine zr_iinc X dX1_capacityOut_56 rfl (by decide) rfl ?_
          refine zr_goto X 4 dX1_capacityOut_59 (by decide) ?_
          refine Wx.weak (lo' := [some (.ref (ad (b + 6, 1))), some (jI q), some (jI y), some (jI (i + 1))]) ⟨rfl, rfl, rfl, rfl, trivial⟩ ?_
          exact ih_4 _ _ ⟨⟨by omega, by omega⟩, by rw [sm_succ hi.1, ← hy]; unfold coF; first | simp [ite0 t_28] | simp [ite1 t_44]⟩ (by omega)
        · refine zr_iloadn X dX1_capacityOut_31 rfl ?_
          refine zr_aloadn X dX1_capacityOut_32 rfl ?_
          refine zr_get X K (C := RX1) (T := TX1) (N := 3) (k := 0) (mB hb (by decide)) rfl rfl ti_1 (by decide) rfl tw_80 rfl dX1_capacityOut_33 ?_
          refine zr_getN X K (C := RX4) (T := TX4) (N := 6) (k := 3) mF_0_0 rfl rfl ti_4 (by decide) rfl tn_48 rfl dX1_capacityOut_36 ?_
          refine zr_iloadn X dX1_capacityOut_39 rfl ?_
          refine zr_iald X K (n := 80) mF_0_3 rfl (by decide) (by omega) dX1_capacityOut_40 ?_
          refine zr_callSNI X K (st := []) (c_X6_contains l D cs ad hap (m := q) (v := σ (0, 3) i) ⟨hq.1, by have := hq.2; omega⟩ ⟨by omega, by omega⟩) ⟨tn_474, tw_467, tw_1, tw_468⟩ dc_X6_contains rfl rfl (Nat.le_of_ble_eq_true rfl) (by decide) dX1_capacityOut_41 ?_
          intro z_ τ_ hp_
          obtain ⟨hτ_, hz_⟩ := hp_
          subst τ_
          subst z_
          refine zr_if_ne X 56 dX1_capacityOut_44 (by decide) ite01 (fun t_44 => ?_) (fun f_44 => ?_)
          · refine zr_iinc X dX1_capacityOut_56 rfl (by decide) rfl ?_
            refine zr_goto X 4 dX1_capacityOut_59 (by decide) ?_
            refine Wx.weak (lo' := [some (.ref (ad (b + 6, 1))), some (jI q), some (jI y), some (jI (i + 1))]) ⟨rfl, rfl, rfl, rfl, trivial⟩ ?_
            exact ih_4 _ _ ⟨⟨by omega, by omega⟩, by rw [sm_succ hi.1, ← hy]; unfold coF; first | simp [ite0 t_28] | simp [ite1 t_44]⟩ (by omega)
          · refine zr_iloadn X dX1_capacityOut_47 rfl ?_
            refine zr_aloadn X dX1_capacityOut_48 rfl ?_
            refine zr_get X K (C := RX1) (T := TX1) (N := 3) (k := 1) (mB hb (by decide)) rfl rfl ti_1 (by decide) rfl tw_81 rfl dX1_capacityOut_49 ?_
            refine zr_iloadn X dX1_capacityOut_52 rfl ?_
            refine zr_iald X K (n := 80) (mB hb (by decide)) rfl (by decide) (by omega) dX1_capacityOut_53 ?_
            refine zr_iadd X dX1_capacityOut_54 ?_
            refine zr_istoren X dX1_capacityOut_55 (by decide) rfl ?_
            refine zr_iinc X dX1_capacityOut_56 rfl (by decide) rfl ?_
            refine zr_goto X 4 dX1_capacityOut_59 (by decide) ?_
            refine Wx.weak (lo' := [some (.ref (ad (b + 6, 1))), some (jI q), some (jI (y + (σ (b + 6, 2) i))), some (jI (i + 1))]) ⟨rfl, rfl, rfl, rfl, trivial⟩ ?_
            exact ih_4 _ _ ⟨⟨by omega, by omega⟩, by rw [sm_succ hi.1, ← hy]; unfold coF; simp [ite1 f_28, ite0 f_44]⟩ (by omega)
  refine Wx.weak (lo' := [some (.ref (ad (b + 6, 1))), some (jI q), some (jI 0), some (jI 0)]) ⟨rfl, rfl, rfl, rfl, trivial⟩ ?_
  exact loop_4 _ _ _ ⟨⟨by omega, by omega⟩, rfl⟩ (Nat.lt_succ_self _)
end
section
/-! FLOWS: the mathematics of cuts -/
/-- only some numbers of one group have changed, and nothing of what flows beyond the arcs -/
def Fr (b : Nat) (L : List Nat) (σ τ : Mem) : Prop := (∀ g k : Nat, (g ≠ b + 6 ∨ k ∉ L) → τ (g, k) = σ (g, k)) ∧ ∀ j, σ (0, 1) 0 ≤ j → τ (b + 6, 3) j = σ (b + 6, 3) j
theorem Fr.rf {b : Nat} {L : List Nat} {σ : Mem} : Fr b L σ σ := ⟨fun _ _ _ => rfl, fun _ _ => rfl⟩
theorem Fr.tr {b : Nat} {L : List Nat} {σ τ υ : Mem} (h : Fr b L σ τ) (k : Fr b L τ υ) : Fr b L σ υ := ⟨fun g j hq => (k.1 g j hq).trans (h.1 g j hq), fun j hj => (k.2 j (by rw [h.1 0 1 (Or.inl (by omega))]; exact hj)).trans (h.2 j hj)⟩
theorem Fr.up {b : Nat} {L M : List Nat} {σ τ : Mem} (h : Fr b L σ τ) (hs : ∀ k ∈ L, k ∈ M) : Fr b M σ τ := ⟨fun g k hq => h.1 g k (hq.elim Or.inl (fun e => Or.inr (fun q => e (hs k q)))), h.2⟩
theorem Fr.set0 {b k : Nat} {L : List Nat} {σ : Mem} {z x : Int} (h : k ∈ L) : ∀ g j : Nat, (g ≠ b + 6 ∨ j ∉ L) → mset σ (b + 6, k) z x (g, j) = σ (g, j) := fun g j hq => mset_id (fun e => by
  cases e
  rcases hq with hq | hq
  · exact hq rfl
  · exact hq h)
theorem Fr.set {b k : Nat} {L : List Nat} {σ : Mem} {z x : Int} (h : k ∈ L) (h3 : k ≠ 3 := by decide) : Fr b L σ (mset σ (b + 6, k) z x) := ⟨Fr.set0 h, fun j _ => congrFun (mset_id (fun e => h3 (by cases e; rfl))) j⟩
theorem Fr.set3 {b : Nat} {L : List Nat} {σ : Mem} {z x : Int} (h : 3 ∈ L) (hz : z < σ (0, 1) 0) : Fr b L σ (mset σ (b + 6, 3) z x) := ⟨Fr.set0 h, fun j hj => mset_ix (by omega)⟩
theorem Fr.of {b : Nat} {L : List Nat} {σ τ : Mem} (h : Fr b L σ τ) (g k : Nat) (hq : g < 6 := by decide) : τ (g, k) = σ (g, k) := h.1 g k (Or.inl (by omega))
theorem Fr.own {b : Nat} {L : List Nat} {σ τ : Mem} (h : Fr b L σ τ) (k : Nat) (hq : k ∉ L := by decide) : τ (b + 6, k) = σ (b + 6, k) := h.1 _ k (Or.inr hq)
theorem Fr.net {b : Nat} {L : List Nat} {σ τ : Mem} (h : Fr b L σ τ) (hN : NetOk σ) : NetOk τ := by
  unfold NetOk at hN ⊢
  rw [h.of 0 0, h.of 0 1, h.of 0 2, h.of 0 3]
  exact hN
theorem Fr.adj {b : Nat} {L : List Nat} {σ τ : Mem} (h : Fr b L σ τ) (hN : AdjOk σ) : AdjOk τ := by
  unfold AdjOk at hN ⊢
  have e : ∀ v : Nat, τ (1, v) = σ (1, v) := fun v => h.of 1 v
  simp only [h.of 0 0, h.of 0 1, h.of 0 2, h.of 0 3, h.of 0 4, e]
  exact hN
theorem Fr.fl {b : Nat} {L : List Nat} {σ τ : Mem} (h : Fr b L σ τ) (h2 : 2 ∉ L := by decide) (h3 : 3 ∉ L := by decide) (hN : FlOk σ b) : FlOk τ b := by
  unfold FlOk at hN ⊢
  rw [h.own 2 h2, h.own 3 h3, h.of 0 1]
  exact hN
def ind (X : Int → Bool) (v x : Int) : Int := if X v = true then x else 0
theorem ind_t {X : Int → Bool} {v x : Int} (h : X v = true) : ind X v x = x := if_pos h
theorem ind_f {X : Int → Bool} {v x : Int} (h : ¬ X v = true) : ind X v x = 0 := if_neg h
theorem ind_add (X : Int → Bool) (v x y : Int) : ind X v (x + y) = ind X v x + ind X v y := by unfold ind; split <;> omega
theorem ind_sub (X : Int → Bool) (v x y : Int) : ind X v (x - y) = ind X v x - ind X v y := by unfold ind; split <;> omega
theorem ind_le {X : Int → Bool} {v x y : Int} (h : x ≤ y) : ind X v x ≤ ind X v y := by unfold ind; split <;> omega
theorem ind_0 (X : Int → Bool) (v : Int) : ind X v 0 = 0 := by unfold ind; split <;> rfl
theorem ind_nn {X : Int → Bool} {v x : Int} (h : 0 ≤ x) : 0 ≤ ind X v x := by unfold ind; split <;> omega
/-- the net flow out of a set -/
def nf (σ : Mem) (b : Nat) (X : Int → Bool) (a : Int) : Int := ind X (σ (0, 2) a) (σ (b + 6, 3) a) - ind X (σ (0, 3) a) (σ (b + 6, 3) a)
def net (σ : Mem) (b : Nat) (X : Int → Bool) : Int := sm (nf σ b X) (σ (0, 1) 0).toNat
/-- the capacity out of a set -/
def co (σ : Mem) (b : Nat) (X : Int → Bool) (a : Int) : Int := if X (σ (0, 2) a) = true ∧ ¬ X (σ (0, 3) a) = true then σ (b + 6, 2) a else 0
def cpo (σ : Mem) (b : Nat) (X : Int → Bool) : Int := sm (co σ b X) (σ (0, 1) 0).toNat
/-- what a set has in excess -/
def sx (σ : Mem) (b : Nat) (X : Int → Bool) : Int := sm (fun v => ind X v (σ (b + 6, 5) v)) (σ (0, 0) 0).toNat
theorem nf_le {σ : Mem} {b : Nat} {X : Int → Bool} {a : Int} (h : 0 ≤ σ (b + 6, 3) a ∧ σ (b + 6, 3) a ≤ σ (b + 6, 2) a) : nf σ b X a ≤ co σ b X a := by
  unfold nf co
  by_cases h1 : X (σ (0, 2) a) = true <;> by_cases h2 : X (σ (0, 3) a) = true
  · rw [ind_t h1, ind_t h2, if_neg (fun h => h.2 h2)]; omega
  · rw [ind_t h1, ind_f h2, if_pos ⟨h1, h2⟩]; omega
  · rw [ind_f h1, ind_t h2, if_neg (fun h => h1 h.1)]; omega
  · rw [ind_f h1, ind_f h2, if_neg (fun h => h1 h.1)]; omega
theorem net_le {σ : Mem} {b : Nat} (hN : NetOk σ) (hF : FlOk σ b) (X : Int → Bool) : net σ b X ≤ cpo σ b X := by
  have := hN.2.1.1
  exact sm_le fun a h1 h2 => nf_le ⟨(hF a h1 (by omega)).1, (hF a h1 (by omega)).2.1⟩
theorem rmF_t {σ : Mem} {b : Nat} {a : Int} : rmF σ b a (σ (0, 2) a) = σ (b + 6, 2) a - σ (b + 6, 3) a := if_pos rfl
theorem rmF_h {σ : Mem} {b : Nat} (hN : NetOk σ) {a : Int} (ha : 0 ≤ a ∧ a < σ (0, 1) 0) : rmF σ b a (σ (0, 3) a) = σ (b + 6, 3) a := if_neg (hN.2.2 a ha.1 ha.2).2.2
theorem clo_net {σ : Mem} {b : Nat} (hN : NetOk σ) (hF : FlOk σ b) {X : Int → Bool} (h : clo σ b X) : net σ b X = cpo σ b X := by
  have hm := hN.2.1.1
  refine sm_cong fun a h1 h2 => ?_
  have ha : 0 ≤ a ∧ a < σ (0, 1) 0 := ⟨h1, by omega⟩
  have hf := hF a ha.1 ha.2
  have hc := h a ha.1 ha.2
  rw [rmF_t, rmF_h hN ha] at hc
  unfold nf co
  by_cases k1 : X (σ (0, 2) a) = true <;> by_cases k2 : X (σ (0, 3) a) = true
  · rw [ind_t k1, ind_t k2, if_neg (fun h => h.2 k2)]; omega
  · rw [ind_t k1, ind_f k2, if_pos ⟨k1, k2⟩]
    by_cases h0 : 0 < σ (b + 6, 2) a - σ (b + 6, 3) a
    · exact absurd (hc.1 k1 h0) k2
    · omega
  · rw [ind_f k1, ind_t k2, if_neg (fun h => k1 h.1)]
    by_cases h0 : 0 < σ (b + 6, 3) a
    · exact absurd (hc.2 k2 h0) k1
    · omega
  · rw [ind_f k1, ind_f k2, if_neg (fun h => k1 h.1)]; omega
theorem net_clo {σ : Mem} {b : Nat} (hN : NetOk σ) (hF : FlOk σ b) {X : Int → Bool} (h : net σ b X = cpo σ b X) : clo σ b X := by
  have hm := hN.2.1.1
  intro a h1 h2
  have ha : 0 ≤ a ∧ a < σ (0, 1) 0 := ⟨h1, by omega⟩
  have hf := hF a ha.1 ha.2
  have he := sm_eq_le (f := nf σ b X) (g := co σ b X) (n := (σ (0, 1) 0).toNat) (fun a h1 h2 => nf_le ⟨(hF a h1 (by omega)).1, (hF a h1 (by omega)).2.1⟩) h a h1 (by omega)
  rw [rmF_t, rmF_h hN ha]
  unfold nf co at he
  by_cases k1 : X (σ (0, 2) a) = true <;> by_cases k2 : X (σ (0, 3) a) = true
  · exact ⟨fun _ _ => k2, fun _ _ => k1⟩
  · rw [ind_t k1, ind_f k2, if_pos ⟨k1, k2⟩] at he
    exact ⟨fun _ h0 => by omega, fun k _ => absurd k k2⟩
  · rw [ind_f k1, ind_t k2, if_neg (fun h => k1 h.1)] at he
    exact ⟨fun k _ => absurd k k1, fun _ h0 => by omega⟩
  · exact ⟨fun k _ => absurd k k1, fun k _ => absurd k k2⟩
theorem co_nn {σ : Mem} {b : Nat} (hN : NetOk σ) (hF : FlOk σ b) (X : Int → Bool) : 0 ≤ cpo σ b X := by
  have hm := hN.2.1.1
  have := sm_le (f := fun _ => 0) (g := co σ b X) (n := (σ (0, 1) 0).toNat) (fun a h1 h2 => by
    have := hF a h1 (by omega)
    show 0 ≤ co σ b X a
    unfold co
    split <;> omega)
  rw [sm_zero] at this
  exact this
/-- closed sets meet and join -/
theorem clo_and {σ : Mem} {b : Nat} {X Y : Int → Bool} (h : clo σ b X) (k : clo σ b Y) : clo σ b (fun v => X v && Y v) := fun a h1 h2 =>
  ⟨fun hx h0 => by rw [Bool.and_eq_true] at hx ⊢; exact ⟨(h a h1 h2).1 hx.1 h0, (k a h1 h2).1 hx.2 h0⟩, fun hx h0 => by rw [Bool.and_eq_true] at hx ⊢; exact ⟨(h a h1 h2).2 hx.1 h0, (k a h1 h2).2 hx.2 h0⟩⟩
theorem clo_or {σ : Mem} {b : Nat} {X Y : Int → Bool} (h : clo σ b X) (k : clo σ b Y) : clo σ b (fun v => X v || Y v) := fun a h1 h2 =>
  ⟨fun hx h0 => by
    rw [Bool.or_eq_true] at hx ⊢
    exact hx.elim (fun q => Or.inl ((h a h1 h2).1 q h0)) (fun q => Or.inr ((k a h1 h2).1 q h0)), fun hx h0 => by
    rw [Bool.or_eq_true] at hx ⊢
    exact hx.elim (fun q => Or.inl ((h a h1 h2).2 q h0)) (fun q => Or.inr ((k a h1 h2).2 q h0))⟩
/-- what is sent over one arc -/
theorem net_send {σ τ : Mem} {b : Nat} {X : Int → Bool} {a x : Int} (ha : 0 ≤ a ∧ a < σ (0, 1) 0) (e1 : τ (0, 1) = σ (0, 1)) (e2 : τ (0, 2) = σ (0, 2)) (e3 : τ (0, 3) = σ (0, 3)) (e4 : ∀ j, τ (b + 6, 3) j = if j = a then σ (b + 6, 3) a + x else σ (b + 6, 3) j) : net τ b X = net σ b X + ind X (σ (0, 2) a) x - ind X (σ (0, 3) a) x := by
  unfold net
  rw [e1]
  have h1 : sm (nf τ b X) (σ (0, 1) 0).toNat = sm (fun j => if j = a then nf σ b X a + ind X (σ (0, 2) a) x - ind X (σ (0, 3) a) x else nf σ b X j) (σ (0, 1) 0).toNat := by
    refine sm_cong fun j h1 h2 => ?_
    unfold nf
    rw [e2, e3, e4 j]
    by_cases h : j = a
    · subst h
      rw [if_pos rfl, if_pos rfl, ind_add, ind_add]; omega
    · rw [if_neg h, if_neg h]
  rw [h1, sm_upd (nf σ b X) ha.1 (by omega)]
  omega
theorem sx_upd {σ τ : Mem} {b : Nat} {X : Int → Bool} {v x : Int} (hv : 0 ≤ v ∧ v < σ (0, 0) 0) (e0 : τ (0, 0) = σ (0, 0)) (e : ∀ j, τ (b + 6, 5) j = if j = v then σ (b + 6, 5) v + x else σ (b + 6, 5) j) : sx τ b X = sx σ b X + ind X v x := by
  unfold sx
  rw [e0]
  have h1 : sm (fun j => ind X j (τ (b + 6, 5) j)) (σ (0, 0) 0).toNat = sm (fun j => if j = v then ind X v (σ (b + 6, 5) v) + ind X v x else ind X j (σ (b + 6, 5) j)) (σ (0, 0) 0).toNat := by
    refine sm_cong fun j h1 h2 => ?_
    show ind X j (τ (b + 6, 5) j) = _
    rw [e j]
    by_cases h : j = v
    · subst h
      rw [if_pos rfl, if_pos rfl, ind_add]
    · rw [if_neg h, if_neg h]
  rw [h1, sm_upd (fun j => ind X j (σ (b + 6, 5) j)) hv.1 (by omega)]
  omega
theorem net_all {σ : Mem} {b : Nat} : net σ b (fun _ => true) = 0 := by
  unfold net
  rw [sm_cong (g := fun _ => 0) (fun a _ _ => by unfold nf; rw [ind_t rfl, ind_t rfl]; omega), sm_zero]
theorem net_same {σ τ : Mem} {b : Nat} {X : Int → Bool} (e1 : τ (0, 1) = σ (0, 1)) (e2 : τ (0, 2) = σ (0, 2)) (e3 : τ (0, 3) = σ (0, 3)) (e4 : τ (b + 6, 3) = σ (b + 6, 3)) : net τ b X = net σ b X := by
  unfold net nf
  rw [e1, e2, e3, e4]
theorem cpo_same {σ τ : Mem} {b : Nat} {X : Int → Bool} (e1 : τ (0, 1) = σ (0, 1)) (e2 : τ (0, 2) = σ (0, 2)) (e3 : τ (0, 3) = σ (0, 3)) (e4 : τ (b + 6, 2) = σ (b + 6, 2)) : cpo τ b X = cpo σ b X := by
  unfold cpo co
  rw [e1, e2, e3, e4]
theorem sx_same {σ τ : Mem} {b : Nat} {X : Int → Bool} (e1 : τ (0, 0) = σ (0, 0)) (e4 : τ (b + 6, 5) = σ (b + 6, 5)) : sx τ b X = sx σ b X := by
  unfold sx
  rw [e1, e4]
theorem clo_same {σ τ : Mem} {b : Nat} {X : Int → Bool} (e1 : τ (0, 1) = σ (0, 1)) (e2 : τ (0, 2) = σ (0, 2)) (e3 : τ (0, 3) = σ (0, 3)) (e4 : τ (b + 6, 2) = σ (b + 6, 2)) (e5 : τ (b + 6, 3) = σ (b + 6, 3)) (h : clo σ b X) : clo τ b X := by
  unfold clo stp rmF at h ⊢
  rw [e1, e2, e3, e4, e5]
  exact h
theorem sm_pos {f : Int → Int} {n : Nat} (h : ∀ a : Int, 0 ≤ a → a < n → 0 ≤ f a) {i : Int} (hi : 0 ≤ i ∧ i < n) : f i ≤ sm f n := by
  have h1 := sm_upd f (i := i) (x := 0) hi.1 hi.2
  have h2 := sm_le (f := fun _ => 0) (g := fun a => if a = i then 0 else f a) (n := n) (fun a h3 h4 => by
    show 0 ≤ if a = i then 0 else f a
    split
    · omega
    · exact h a h3 h4)
  rw [sm_zero] at h2
  omega
theorem sm_nn {f : Int → Int} {n : Nat} (h : ∀ a : Int, 0 ≤ a → a < n → 0 ≤ f a) : 0 ≤ sm f n := by
  have h2 := sm_le (f := fun _ => 0) (g := f) (n := n) h
  rw [sm_zero] at h2
  exact h2
end
section
theorem fb_holes : ∀ (m n : Nat) (f : Nat → Nat), (∀ i, i < n → f i < m) → (∀ i j, i < j → j < n → f i ≠ f j) → n ≤ m := by
  intro m
  induction m with
  | zero =>
    intro n f h1 _
    rcases Nat.eq_zero_or_pos n with h | h
    · omega
    · exact absurd (h1 0 h) (Nat.not_lt_zero _)
  | succ m ih =>
    intro n f h1 h2
    by_cases hx : ∃ i, i < n ∧ f i = m
    · obtain ⟨a, ha, hfa⟩ := hx
      have hg := ih (n - 1) (fun i => if i < a then f i else f (i + 1)) (by
        intro i hi
        by_cases q : i < a
        · simp only [if_pos q]
          have b1 := h1 i (by omega)
          have b2 := h2 i a q ha
          omega
        · simp only [if_neg q]
          have b1 := h1 (i + 1) (by omega)
          have b2 := h2 a (i + 1) (by omega) (by omega)
          omega) (by
        intro i j hij hj
        by_cases q : i < a
        · by_cases r : j < a
          · simp only [if_pos q, if_pos r]
            exact h2 i j hij (by omega)
          · simp only [if_pos q, if_neg r]
            exact h2 i (j + 1) (by omega) (by omega)
        · have r : ¬ j < a := by omega
          simp only [if_neg q, if_neg r]
          exact h2 (i + 1) (j + 1) (by omega) (by omega))
      omega
    · have hg := ih n f (fun i hi => by
        have b1 := h1 i hi
        have b2 : f i ≠ m := fun e => hx ⟨i, hi, e⟩
        omega) h2
      omega
/-! PREFLOWS: pushing and relabeling, the mathematics -/
/-- of n + 1 different heights, one is no node's -/
theorem pig {h : Int → Int} {n : Nat} {c : Nat → Int} (hc : ∀ i j : Nat, i < j → j < n + 1 → c i ≠ c j) : ∃ i : Nat, i < n + 1 ∧ ∀ v : Int, 0 ≤ v → v < n → h v ≠ c i := by
  apply Classical.byContradiction
  intro hno
  have hex : ∀ i : Nat, ∃ w : Nat, i < n + 1 → w < n ∧ h (w : Int) = c i := by
    intro i
    by_cases hi : i < n + 1
    · apply Classical.byContradiction
      intro h1
      apply hno
      refine ⟨i, hi, fun v h2 h3 h4 => h1 ⟨v.toNat, fun _ => ⟨by omega, ?_⟩⟩⟩
      rw [Int.toNat_of_nonneg h2]
      exact h4
    · exact ⟨0, fun h => absurd h hi⟩
  have hf : ∀ i, i < n + 1 → Classical.choose (hex i) < n ∧ h ((Classical.choose (hex i) : Nat) : Int) = c i := fun i hi => Classical.choose_spec (hex i) hi
  have := fb_holes n (n + 1) (fun i => Classical.choose (hex i)) (fun i hi => (hf i hi).1) (fun i j hij hj e => by
    apply hc i j hij hj
    rw [← (hf i (by omega)).2, ← (hf j hj).2]
    have e : Classical.choose (hex i) = Classical.choose (hex j) := e
    rw [e])
  omega
def VL (σ : Mem) (b : Nat) : Prop := ∀ a, 0 ≤ a → a < σ (0, 1) 0 → (0 < σ (b + 6, 2) a - σ (b + 6, 3) a → σ (b + 6, 6) (σ (0, 2) a) ≤ σ (b + 6, 6) (σ (0, 3) a) + 1) ∧ (0 < σ (b + 6, 3) a → σ (b + 6, 6) (σ (0, 3) a) ≤ σ (b + 6, 6) (σ (0, 2) a) + 1)
theorem gap_clo {σ : Mem} {b : Nat} {k : Int} (hN : NetOk σ) (hV : VL σ b) (hk : ∀ v : Int, 0 ≤ v → v < σ (0, 0) 0 → σ (b + 6, 6) v ≠ k) : clo σ b (fun v => decide (k < σ (b + 6, 6) v)) := by
  intro a h1 h2
  have ha : 0 ≤ a ∧ a < σ (0, 1) 0 := ⟨h1, h2⟩
  obtain ⟨⟨t1, t2⟩, ⟨t3, t4⟩, -⟩ := hN.2.2 a h1 h2
  have hv := hV a h1 h2
  have k1 := hk _ t1 t2
  have k2 := hk _ t3 t4
  rw [rmF_t, rmF_h hN ha]
  constructor
  · intro hx h0
    have hx := of_decide_eq_true hx
    have := hv.1 h0
    exact decide_eq_true (by omega)
  · intro hx h0
    have hx := of_decide_eq_true hx
    have := hv.2 h0
    exact decide_eq_true (by omega)
/-- the state of the router at work: what flows, plus what is in excess, is what flowed, plus what was given to the start -/
def pfI (σ : Mem) (b : Nat) (N0 : (Int → Bool) → Int) (s t B : Int) : Prop :=
  (NetOk σ ∧ AdjOk σ ∧ FlOk σ b) ∧ (∀ X, net σ b X + sx σ b X = N0 X + ind X s B) ∧ (∀ X, N0 X ≤ cpo σ b X) ∧ N0 (fun _ => true) = 0 ∧
  (∀ v, 0 ≤ v → v < σ (0, 0) 0 → 0 ≤ σ (b + 6, 5) v) ∧ VL σ b ∧ σ (b + 6, 6) t = 0 ∧ σ (b + 6, 6) s ≤ σ (0, 0) 0 ∧
  (∀ v, 0 ≤ v → v < σ (0, 0) 0 → 0 ≤ σ (b + 6, 6) v ∧ σ (b + 6, 6) v ≤ 2 * σ (0, 0) 0 - 1) ∧
  (σ (b + 6, 11) 0 = s ∧ σ (b + 6, 12) 0 = t) ∧ (0 ≤ s ∧ s < σ (0, 0) 0) ∧ (0 ≤ t ∧ t < σ (0, 0) 0) ∧ s ≠ t ∧ 0 ≤ B ∧ B ≤ 100000000
theorem pf_exc {σ : Mem} {b : Nat} {N0 : (Int → Bool) → Int} {s t B : Int} (h : pfI σ b N0 s t B) {v : Int} (hv : 0 ≤ v ∧ v < σ (0, 0) 0) : 0 ≤ σ (b + 6, 5) v ∧ σ (b + 6, 5) v ≤ B := by
  obtain ⟨⟨hN, hA, hF⟩, hb, hc, h0, he, -⟩ := h
  refine ⟨he v hv.1 hv.2, ?_⟩
  have h1 := hb (fun _ => true)
  rw [net_all, h0, ind_t rfl] at h1
  have h2 := sm_pos (f := fun v => ind (fun _ => true) v (σ (b + 6, 5) v)) (n := (σ (0, 0) 0).toNat) (fun a h1 h2 => by
    show 0 ≤ ind _ a _
    rw [ind_t rfl]
    exact he a h1 (by omega)) (i := v) ⟨hv.1, by omega⟩
  have h3 : ind (fun _ => true) v (σ (b + 6, 5) v) ≤ sx σ b (fun _ => true) := h2
  rw [ind_t rfl] at h3
  omega
/-- a node with excess is below twice the number of nodes -/
theorem pf_high {σ : Mem} {b : Nat} {N0 : (Int → Bool) → Int} {s t B : Int} (hN : NetOk σ) (hF : FlOk σ b) (hb : ∀ X, net σ b X + sx σ b X = N0 X + ind X s B) (hc : ∀ X, N0 X ≤ cpo σ b X) (he : ∀ v, 0 ≤ v → v < σ (0, 0) 0 → 0 ≤ σ (b + 6, 5) v) (hV : VL σ b) (ht : σ (b + 6, 6) t = 0) (hs : σ (b + 6, 6) s ≤ σ (0, 0) 0) (htn : 0 ≤ t ∧ t < σ (0, 0) 0) {v : Int} (hv : 0 ≤ v ∧ v < σ (0, 0) 0) (h0 : 0 < σ (b + 6, 5) v) : σ (b + 6, 6) v ≤ 2 * σ (0, 0) 0 - 1 := by
  apply Classical.byContradiction
  intro hno
  obtain ⟨i, hi, hk⟩ := pig (h := σ (b + 6, 6)) (n := (σ (0, 0) 0).toNat) (c := fun i => if i = 0 then 0 else σ (0, 0) 0 + (i : Int) - 1) (fun i j hij hj => by
    show (if i = 0 then (0 : Int) else σ (0, 0) 0 + (i : Int) - 1) ≠ (if j = 0 then (0 : Int) else σ (0, 0) 0 + (j : Int) - 1)
    split <;> split <;> omega)
  have hi0 : i ≠ 0 := by
    intro e
    subst e
    exact hk t htn.1 (by omega) (by rw [ht]; rfl)
  have hk' : ∀ w : Int, 0 ≤ w → w < σ (0, 0) 0 → σ (b + 6, 6) w ≠ σ (0, 0) 0 + (i : Int) - 1 := fun w h1 h2 => by
    have := hk w h1 (by omega)
    rw [if_neg hi0] at this
    exact this
  have hX := gap_clo hN hV hk'
  have h1 := clo_net hN hF hX
  have h2 := hb (fun v => decide (σ (0, 0) 0 + (i : Int) - 1 < σ (b + 6, 6) v))
  have h3 := hc (fun v => decide (σ (0, 0) 0 + (i : Int) - 1 < σ (b + 6, 6) v))
  rw [ind_f (v := s) (by intro q; have := of_decide_eq_true q; omega)] at h2
  have h4 := sm_pos (f := fun w => ind (fun v => decide (σ (0, 0) 0 + (i : Int) - 1 < σ (b + 6, 6) v)) w (σ (b + 6, 5) w)) (n := (σ (0, 0) 0).toNat) (fun a h1 h2 => ind_nn (he a h1 (by omega))) (i := v) ⟨hv.1, by omega⟩
  have h5 : ind (fun v => decide (σ (0, 0) 0 + (i : Int) - 1 < σ (b + 6, 6) v)) v (σ (b + 6, 5) v) ≤ sx σ b (fun v => decide (σ (0, 0) 0 + (i : Int) - 1 < σ (b + 6, 6) v)) := h4
  rw [ind_t (v := v) (by exact decide_eq_true (by omega))] at h5
  omega
/-! a push over one arc -/
theorem otF_t {σ : Mem} {a : Int} : otF σ a (σ (0, 2) a) = σ (0, 3) a := if_pos rfl
theorem otF_h {σ : Mem} (hN : NetOk σ) {a : Int} (ha : 0 ≤ a ∧ a < σ (0, 1) 0) : otF σ a (σ (0, 3) a) = σ (0, 2) a := if_neg (hN.2.2 a ha.1 ha.2).2.2
theorem sx_two {σ τ : Mem} {b : Nat} {X : Int → Bool} {u w x : Int} (hu : 0 ≤ u ∧ u < σ (0, 0) 0) (hw : 0 ≤ w ∧ w < σ (0, 0) 0) (huw : u ≠ w) (e0 : τ (0, 0) = σ (0, 0)) (e : ∀ j, τ (b + 6, 5) j = if j = w then σ (b + 6, 5) w + x else if j = u then σ (b + 6, 5) u - x else σ (b + 6, 5) j) : sx τ b X = sx σ b X + ind X w x - ind X u x := by
  unfold sx
  rw [e0]
  have h1 : sm (fun j => ind X j (τ (b + 6, 5) j)) (σ (0, 0) 0).toNat = sm (fun j => if j = w then ind X w (σ (b + 6, 5) w) + ind X w x else if j = u then ind X u (σ (b + 6, 5) u) - ind X u x else ind X j (σ (b + 6, 5) j)) (σ (0, 0) 0).toNat := by
    refine sm_cong fun j h1 h2 => ?_
    show ind X j (τ (b + 6, 5) j) = _
    rw [e j]
    by_cases h : j = w
    · subst h
      rw [if_pos rfl, if_pos rfl, ind_add]
    · rw [if_neg h, if_neg h]
      by_cases h' : j = u
      · subst h'
        rw [if_pos rfl, if_pos rfl, ind_sub]
      · rw [if_neg h', if_neg h']
  rw [h1, sm_upd (fun j => if j = u then ind X u (σ (b + 6, 5) u) - ind X u x else ind X j (σ (b + 6, 5) j)) hw.1 (by omega), sm_upd (fun j => ind X j (σ (b + 6, 5) j)) hu.1 (by omega), if_neg (Ne.symm huw)]
  omega
/-- what a push from u over the arc a makes of the memory -/
def psP (σ τ : Mem) (b : Nat) (a u x : Int) : Prop := Fr b [3, 5] σ τ ∧ (∀ j, τ (b + 6, 3) j = if j = a then σ (b + 6, 3) a + (if σ (0, 2) a = u then x else -x) else σ (b + 6, 3) j) ∧ ∀ j, τ (b + 6, 5) j = if j = otF σ a u then σ (b + 6, 5) (otF σ a u) + x else if j = u then σ (b + 6, 5) u - x else σ (b + 6, 5) j
theorem ends {σ : Mem} (hN : NetOk σ) {a u : Int} (ha : 0 ≤ a ∧ a < σ (0, 1) 0) (hu : σ (0, 2) a = u ∨ σ (0, 3) a = u) : (0 ≤ u ∧ u < σ (0, 0) 0) ∧ (0 ≤ otF σ a u ∧ otF σ a u < σ (0, 0) 0) ∧ u ≠ otF σ a u := by
  obtain ⟨t1, t2, t3⟩ := hN.2.2 a ha.1 ha.2
  rcases hu with rfl | rfl
  · rw [otF_t]; exact ⟨t1, t2, t3⟩
  · rw [otF_h hN ha]; exact ⟨t2, t1, Ne.symm t3⟩
theorem ps_rm {σ τ : Mem} {b : Nat} {a u x : Int} (hN : NetOk σ) (ha : 0 ≤ a ∧ a < σ (0, 1) 0) (hu : σ (0, 2) a = u ∨ σ (0, 3) a = u) (h : psP σ τ b a u x) (c : Int) (hc : σ (0, 2) c = u ∨ σ (0, 3) c = u) (hc2 : 0 ≤ c ∧ c < σ (0, 1) 0) : rmF τ b c u = if c = a then rmF σ b a u - x else rmF σ b c u := by
  obtain ⟨hf, h3, -⟩ := h
  unfold rmF
  rw [hf.of 0 2, hf.own 2, h3 c]
  by_cases e : c = a
  · subst e
    rw [if_pos rfl, if_pos rfl]
    split
    · omega
    · omega
  · rw [if_neg e, if_neg e]
theorem pf_push {σ τ : Mem} {b : Nat} {N0 : (Int → Bool) → Int} {s t B a u x : Int} (h : pfI σ b N0 s t B) (ha : 0 ≤ a ∧ a < σ (0, 1) 0) (hu : σ (0, 2) a = u ∨ σ (0, 3) a = u) (hx : 0 ≤ x ∧ x ≤ σ (b + 6, 5) u ∧ x ≤ rmF σ b a u) (hh : σ (b + 6, 6) u = σ (b + 6, 6) (otF σ a u) + 1) (k : psP σ τ b a u x) : pfI τ b N0 s t B := by
  obtain ⟨⟨hN, hA, hF⟩, hb, hc, h0, he, hV, h6, h7, h8, ⟨h9, h10⟩, h11, h12, h13, h14, h15⟩ := h
  obtain ⟨kf, k3, k5⟩ := k
  obtain ⟨u1, w1, uw⟩ := ends hN ha hu
  have hFa := hF a ha.1 ha.2
  obtain ⟨q1, q2, q3⟩ := hN.2.2 a ha.1 ha.2
  have hF' : FlOk τ b := by
    intro c c1 c2
    rw [kf.of 0 1] at c2
    rw [kf.own 2, k3 c]
    have hFc := hF c c1 c2
    by_cases e : c = a
    · subst e
      rw [if_pos rfl]
      unfold rmF at hx
      by_cases e2 : σ (0, 2) c = u
      · rw [if_pos e2] at hx ⊢; omega
      · rw [if_neg e2] at hx ⊢; omega
    · rw [if_neg e]; exact hFc
  have hnet : ∀ X, net τ b X = net σ b X + ind X u x - ind X (otF σ a u) x := by
    intro X
    rw [net_send (σ := σ) ha (kf.of 0 1) (kf.of 0 2) (kf.of 0 3) k3]
    rcases hu with hu | hu
    · subst hu
      rw [if_pos rfl, otF_t]
    · subst hu
      rw [if_neg q3, otF_h hN ha]
      have e : ∀ y, ind X y (-x) = - ind X y x := fun y => by unfold ind; split <;> omega
      rw [e, e]; omega
  have hsx : ∀ X, sx τ b X = sx σ b X + ind X (otF σ a u) x - ind X u x := fun X => sx_two u1 w1 uw (kf.of 0 0) k5
  refine ⟨⟨kf.net hN, kf.adj hA, hF'⟩, fun X => ?_, fun X => ?_, h0, fun v v1 v2 => ?_, ?_, ?_, ?_, ?_, ⟨?_, ?_⟩, ?_, ?_, h13, h14, h15⟩
  · rw [hnet, hsx]
    have := hb X
    omega
  · rw [cpo_same (kf.of 0 1) (kf.of 0 2) (kf.of 0 3) (kf.own 2)]; exact hc X
  · rw [kf.of 0 0] at v2
    rw [k5 v]
    have := he v v1 v2
    by_cases e : v = otF σ a u
    · rw [if_pos e]; rw [e] at this; omega
    · rw [if_neg e]
      by_cases e2 : v = u
      · rw [if_pos e2]; omega
      · rw [if_neg e2]; exact this
  · intro c c1 c2
    rw [kf.of 0 1] at c2
    rw [kf.own 2, kf.own 6, kf.of 0 2, kf.of 0 3, k3 c]
    have hv := hV c c1 c2
    by_cases e : c = a
    · subst e
      rw [if_pos rfl]
      unfold rmF at hx
      rcases hu with hu | hu
      · subst hu
        rw [otF_t] at hh
        rw [if_pos rfl] at hx ⊢
        exact ⟨fun _ => by omega, fun _ => by omega⟩
      · subst hu
        rw [otF_h hN ha] at hh
        rw [if_neg q3] at hx ⊢
        exact ⟨fun _ => by omega, fun _ => by omega⟩
    · rw [if_neg e]; exact hv
  · rw [kf.own 6]; exact h6
  · rw [kf.own 6, kf.of 0 0]; exact h7
  · rw [kf.own 6, kf.of 0 0]; exact h8
  · rw [kf.own 11]; exact h9
  · rw [kf.own 12]; exact h10
  · rw [kf.of 0 0]; exact h11
  · rw [kf.of 0 0]; exact h12
/-- pushOut at work: σ0 its start, the node u, the arcs below i done -/
def poI (σ0 σ : Mem) (b : Nat) (N0 : (Int → Bool) → Int) (s t B u i : Int) : Prop := pfI σ b N0 s t B ∧ Fr b [3, 5] σ0 σ ∧ (∀ v, 0 ≤ v → v < σ (0, 0) 0 → v ≠ u → σ0 (b + 6, 5) v ≤ σ (b + 6, 5) v ∧ (σ (b + 6, 5) v ≠ σ0 (b + 6, 5) v → σ (b + 6, 6) v + 1 = σ (b + 6, 6) u)) ∧
  σ (b + 6, 5) u ≤ σ0 (b + 6, 5) u ∧ ∀ j, 0 ≤ j → j < i → σ (b + 6, 6) u = σ (b + 6, 6) (otF σ (σ (1, u.toNat) j) u) + 1 → σ (b + 6, 5) u = 0 ∨ rmF σ b (σ (1, u.toNat) j) u = 0
theorem poI_0 {σ : Mem} {b : Nat} {N0 : (Int → Bool) → Int} {s t B u : Int} (h : pfI σ b N0 s t B) : poI σ σ b N0 s t B u 0 := ⟨h, Fr.rf, fun _ _ _ _ => ⟨Int.le_refl _, fun e => absurd rfl e⟩, Int.le_refl _, fun j h1 h2 => by omega⟩
theorem poI_skip {σ0 σ : Mem} {b : Nat} {N0 : (Int → Bool) → Int} {s t B u i : Int} (h : poI σ0 σ b N0 s t B u i) (hi : ¬ σ (b + 6, 6) u = σ (b + 6, 6) (otF σ (σ (1, u.toNat) i) u) + 1) : poI σ0 σ b N0 s t B u (i + 1) := ⟨h.1, h.2.1, h.2.2.1, h.2.2.2.1, fun j h1 h2 h3 => by
  by_cases e : j = i
  · subst e; exact absurd h3 hi
  · exact h.2.2.2.2 j h1 (by omega) h3⟩
theorem poI_push {σ0 σ τ : Mem} {b : Nat} {N0 : (Int → Bool) → Int} {s t B u i x : Int} (h : poI σ0 σ b N0 s t B u i) (hu : 0 ≤ u ∧ u < 24) (hi : 0 ≤ i ∧ i < σ (0, 4) u) (hh : σ (b + 6, 6) u = σ (b + 6, 6) (otF σ (σ (1, u.toNat) i) u) + 1) (hx : (x = σ (b + 6, 5) u ∨ x = rmF σ b (σ (1, u.toNat) i) u) ∧ x ≤ σ (b + 6, 5) u ∧ x ≤ rmF σ b (σ (1, u.toNat) i) u) (k : psP σ τ b (σ (1, u.toNat) i) u x) : poI σ0 τ b N0 s t B u (i + 1) := by
  obtain ⟨h1, h2, h3, h4, h5⟩ := h
  have hN := h1.1.1
  have hA := h1.1.2.1
  have hF := h1.1.2.2
  obtain ⟨ha, hua⟩ := hA.2.2.1 u i hu.1 hu.2 hi.1 hi.2
  obtain ⟨u1, w1, uw⟩ := ends hN ha hua
  have hex := (pf_exc h1 u1).1
  have hrm := (rmF_rg hF (v := u) ha).1
  have hx0 : 0 ≤ x := by rcases hx.1 with e | e <;> omega
  obtain ⟨kf, k3, k5⟩ := id k
  refine ⟨pf_push h1 ha hua ⟨hx0, hx.2⟩ hh k, h2.tr (kf.up (by decide)), fun v v1 v2 v3 => ?_, ?_, fun j j1 j2 j3 => ?_⟩
  · rw [kf.of 0 0] at v2
    have h3v := h3 v v1 v2 v3
    rw [kf.own 6, k5 v]
    by_cases e : v = otF σ (σ (1, u.toNat) i) u
    · rw [if_pos e, ← e]
      refine ⟨by omega, fun _ => ?_⟩
      rw [e]; omega
    · rw [if_neg e, if_neg v3]
      exact h3v
  · rw [k5 u, if_neg uw, if_pos rfl]
    omega
  · have e1 : τ (1, u.toNat) = σ (1, u.toNat) := kf.of 1 _
    have eo : ∀ c, otF τ c u = otF σ c u := fun c => by unfold otF; rw [kf.of 0 2, kf.of 0 3]
    rw [e1] at j3 ⊢
    rw [kf.own 6, eo] at j3
    rw [k5 u, if_neg uw, if_pos rfl]
    by_cases e : j = i
    · subst e
      rw [ps_rm hN ha hua k _ hua ha, if_pos rfl]
      rcases hx.1 with e | e
      · left; omega
      · right; omega
    · have hj2 : j < i := by omega
      obtain ⟨hc, huc⟩ := hA.2.2.1 u j hu.1 hu.2 j1 (by omega)
      rw [ps_rm hN ha hua k _ huc hc]
      rcases h5 j j1 hj2 j3 with q | q
      · left; omega
      · by_cases e2 : σ (1, u.toNat) j = σ (1, u.toNat) i
        · rw [if_pos e2]
          right
          rw [← e2] at hx ⊢
          omega
        · rw [if_neg e2]
          right; exact q
/-- pushOut's answer -/
def poP (σ τ : Mem) (b : Nat) (N0 : (Int → Bool) → Int) (s t B u : Int) : Prop := pfI τ b N0 s t B ∧ Fr b [3, 5] σ τ ∧ (∀ v, 0 ≤ v → v < τ (0, 0) 0 → v ≠ u → τ (b + 6, 5) v ≠ σ (b + 6, 5) v → τ (b + 6, 6) v + 1 = τ (b + 6, 6) u) ∧
  (0 < τ (b + 6, 5) u → ∀ a, 0 ≤ a → a < τ (0, 1) 0 → (τ (0, 2) a = u ∨ τ (0, 3) a = u) → 0 < rmF τ b a u → τ (b + 6, 6) u ≤ τ (b + 6, 6) (otF τ a u))
theorem adj_at {σ : Mem} (hA : AdjOk σ) {a u : Int} (ha : 0 ≤ a ∧ a < σ (0, 1) 0) (hu : σ (0, 2) a = u ∨ σ (0, 3) a = u) : ∃ j, (0 ≤ j ∧ j < σ (0, 4) u) ∧ σ (1, u.toNat) j = a := by
  obtain ⟨q1, q2⟩ := hA.2.2.2 a ha.1 ha.2
  rcases hu with rfl | rfl
  · exact q1
  · exact q2
theorem VL_rm {σ : Mem} {b : Nat} (hN : NetOk σ) (hV : VL σ b) {a u : Int} (ha : 0 ≤ a ∧ a < σ (0, 1) 0) (hu : σ (0, 2) a = u ∨ σ (0, 3) a = u) (h0 : 0 < rmF σ b a u) : σ (b + 6, 6) u ≤ σ (b + 6, 6) (otF σ a u) + 1 := by
  have hv := hV a ha.1 ha.2
  rcases hu with rfl | rfl
  · rw [rmF_t] at h0
    rw [otF_t]
    exact hv.1 h0
  · rw [rmF_h hN ha] at h0
    rw [otF_h hN ha]
    exact hv.2 h0
theorem poI_end {σ0 σ : Mem} {b : Nat} {N0 : (Int → Bool) → Int} {s t B u i : Int} (h : poI σ0 σ b N0 s t B u i) (hi : σ (0, 4) u ≤ i) : poP σ0 σ b N0 s t B u := by
  obtain ⟨h1, h2, h3, h4, h5⟩ := h
  refine ⟨h1, h2, fun v v1 v2 v3 v4 => (h3 v v1 v2 v3).2 v4, fun he a a1 a2 a3 a4 => ?_⟩
  obtain ⟨j, hj, e⟩ := adj_at h1.1.2.1 ⟨a1, a2⟩ a3
  have hv := VL_rm h1.1.1 h1.2.2.2.2.2.1 ⟨a1, a2⟩ a3 a4
  have := h5 j hj.1 (by omega)
  rw [e] at this
  by_cases q : σ (b + 6, 6) u = σ (b + 6, 6) (otF σ a u) + 1
  · have := this q
    omega
  · omega
/-! a lift -/
def lfI (σ : Mem) (b : Nat) (u i y : Int) : Prop := 0 ≤ y ∧ y ≤ 48 ∧ (∀ j, 0 ≤ j → j < i → 0 < rmF σ b (σ (1, u.toNat) j) u → y ≤ σ (b + 6, 6) (otF σ (σ (1, u.toNat) j) u)) ∧ (y = 48 ∨ ∃ j, 0 ≤ j ∧ j < i ∧ 0 < rmF σ b (σ (1, u.toNat) j) u ∧ y = σ (b + 6, 6) (otF σ (σ (1, u.toNat) j) u))
theorem lfI_0 {σ : Mem} {b : Nat} {u : Int} : lfI σ b u 0 48 := ⟨by omega, by omega, fun j h1 h2 => by omega, Or.inl rfl⟩
theorem lfI_skip {σ : Mem} {b : Nat} {u i y : Int} (h : lfI σ b u i y) (hi : ¬ 0 < rmF σ b (σ (1, u.toNat) i) u) : lfI σ b u (i + 1) y := ⟨h.1, h.2.1, fun j h1 h2 h3 => by
  by_cases e : j = i
  · subst e; exact absurd h3 hi
  · exact h.2.2.1 j h1 (by omega) h3, h.2.2.2.elim Or.inl (fun ⟨j, h1, h2, h3⟩ => Or.inr ⟨j, h1, by omega, h3⟩)⟩
theorem lfI_min {σ : Mem} {b : Nat} {u i y z : Int} (h : lfI σ b u i y) (hi0 : 0 ≤ i) (hi : 0 < rmF σ b (σ (1, u.toNat) i) u) (h0 : 0 ≤ σ (b + 6, 6) (otF σ (σ (1, u.toNat) i) u)) (hz : (z = y ∨ z = σ (b + 6, 6) (otF σ (σ (1, u.toNat) i) u)) ∧ z ≤ y ∧ z ≤ σ (b + 6, 6) (otF σ (σ (1, u.toNat) i) u)) : lfI σ b u (i + 1) z := by
  obtain ⟨h1, h2, h3, h4⟩ := h
  refine ⟨by rcases hz.1 with e | e <;> omega, by omega, fun j j1 j2 j3 => ?_, ?_⟩
  · by_cases e : j = i
    · subst e; exact hz.2.2
    · have := h3 j j1 (by omega) j3
      omega
  · rcases hz.1 with e | e
    · rw [e]
      exact h4.elim Or.inl (fun ⟨j, q1, q2, q3⟩ => Or.inr ⟨j, q1, by omega, q3⟩)
    · exact Or.inr ⟨i, hi0, by omega, hi, e⟩
/-- lift's answer: nothing, or the node stands higher -/
def lfP (σ τ : Mem) (b : Nat) (N0 : (Int → Bool) → Int) (s t B u : Int) : Prop := (σ (b + 6, 5) u = 0 ∧ τ = σ) ∨ (0 < σ (b + 6, 5) u ∧ pfI τ b N0 s t B ∧ ∃ z, σ (b + 6, 6) u + 1 ≤ z ∧ τ = mset σ (b + 6, 6) u z)
theorem lf_end {σ : Mem} {b : Nat} {N0 : (Int → Bool) → Int} {s t B u i y z : Int} (h : pfI σ b N0 s t B) (hu : 0 ≤ u ∧ u < σ (0, 0) 0) (hut : u ≠ t) (hus : u = s → σ (b + 6, 6) u < σ (0, 0) 0) (he : 0 < σ (b + 6, 5) u) (hp : ∀ a, 0 ≤ a → a < σ (0, 1) 0 → (σ (0, 2) a = u ∨ σ (0, 3) a = u) → 0 < rmF σ b a u → σ (b + 6, 6) u ≤ σ (b + 6, 6) (otF σ a u)) (hy : lfI σ b u i y) (hi : σ (0, 4) u ≤ i) (hi2 : i ≤ σ (0, 4) u) (hz : (u = s → (z = y + 1 ∨ z = σ (0, 0) 0) ∧ z ≤ y + 1 ∧ z ≤ σ (0, 0) 0) ∧ (u ≠ s → z = y + 1)) : lfP σ (mset σ (b + 6, 6) u z) b N0 s t B u := by
  obtain ⟨⟨hN, hA, hF⟩, hb, hc, h0, hee, hV, h6, h7, h8, ⟨h9, h10⟩, h11, h12, h13, h14, h15⟩ := h
  obtain ⟨y0, y1, y2, y3⟩ := hy
  have hn := hN.1
  have h8u := h8 u hu.1 hu.2
  have hyh : σ (b + 6, 6) u ≤ y := by
    rcases y3 with e | ⟨j, j1, j2, j3, e⟩
    · omega
    · obtain ⟨q1, q2⟩ := hA.2.2.1 u j hu.1 (by omega) j1 (by omega)
      rw [e]
      exact hp _ q1.1 q1.2 q2 j3
  have hzh : σ (b + 6, 6) u + 1 ≤ z := by
    by_cases e : u = s
    · have := hus e
      rcases (hz.1 e).1 with e2 | e2 <;> omega
    · have := hz.2 e
      omega
  have hzy : z ≤ y + 1 := by
    by_cases e : u = s
    · exact (hz.1 e).2.1
    · exact Int.le_of_eq (hz.2 e)
  have kf : Fr b [6] σ (mset σ (b + 6, 6) u z) := Fr.set (by decide)
  have k6 : ∀ v, mset σ (b + 6, 6) u z (b + 6, 6) v = if v = u then z else σ (b + 6, 6) v := fun v => mset_at
  generalize hτ : mset σ (b + 6, 6) u z = τ at kf k6 ⊢
  have hVτ : VL τ b := by
    intro c c1 c2
    rw [kf.of 0 1] at c2
    rw [kf.own 2, kf.own 3, kf.of 0 2, kf.of 0 3, k6, k6]
    have hv := hV c c1 c2
    obtain ⟨q1, q2, q3⟩ := hN.2.2 c c1 c2
    have hcc : 0 ≤ c ∧ c < σ (0, 1) 0 := ⟨c1, c2⟩
    constructor
    · intro r
      by_cases e1 : σ (0, 2) c = u
      · obtain ⟨j, hj, ej⟩ := adj_at hA hcc (Or.inl e1)
        have := y2 j hj.1 (by omega)
        rw [ej, ← e1, rmF_t, otF_t] at this
        have := this r
        rw [if_pos e1, if_neg (by rw [← e1]; exact Ne.symm q3)]
        omega
      · rw [if_neg e1]
        by_cases e2 : σ (0, 3) c = u
        · rw [if_pos e2]
          have := hv.1 r
          rw [e2] at this
          omega
        · rw [if_neg e2]; exact hv.1 r
    · intro r
      by_cases e1 : σ (0, 3) c = u
      · obtain ⟨j, hj, ej⟩ := adj_at hA hcc (Or.inr e1)
        have := y2 j hj.1 (by omega)
        rw [ej, ← e1, rmF_h hN hcc, otF_h hN hcc] at this
        have := this r
        rw [if_pos e1, if_neg (by rw [← e1]; exact q3)]
        omega
      · rw [if_neg e1]
        by_cases e2 : σ (0, 2) c = u
        · rw [if_pos e2]
          have := hv.2 r
          rw [e2] at this
          omega
        · rw [if_neg e2]; exact hv.2 r
  have hb' : ∀ X, net τ b X + sx τ b X = N0 X + ind X s B := fun X => by
    rw [net_same (kf.of 0 1) (kf.of 0 2) (kf.of 0 3) (kf.own 3), sx_same (kf.of 0 0) (kf.own 5)]; exact hb X
  have hc' : ∀ X, N0 X ≤ cpo τ b X := fun X => by rw [cpo_same (kf.of 0 1) (kf.of 0 2) (kf.of 0 3) (kf.own 2)]; exact hc X
  have hee' : ∀ v, 0 ≤ v → v < τ (0, 0) 0 → 0 ≤ τ (b + 6, 5) v := by rw [kf.of 0 0, kf.own 5]; exact hee
  have h6' : τ (b + 6, 6) t = 0 := by rw [k6, if_neg (Ne.symm hut)]; exact h6
  have h7' : τ (b + 6, 6) s ≤ τ (0, 0) 0 := by
    rw [k6, kf.of 0 0]
    by_cases e : s = u
    · rw [if_pos e]; exact (hz.1 e.symm).2.2
    · rw [if_neg e]; exact h7
  have hN' := kf.net hN
  have hF' := kf.fl (hN := hF)
  have h12' : 0 ≤ t ∧ t < τ (0, 0) 0 := by rw [kf.of 0 0]; exact h12
  refine Or.inr ⟨he, ⟨⟨hN', kf.adj hA, hF'⟩, hb', hc', h0, hee', hVτ, h6', h7', fun v v1 v2 => ?_, ⟨by rw [kf.own 11]; exact h9, by rw [kf.own 12]; exact h10⟩, by rw [kf.of 0 0]; exact h11, h12', h13, h14, h15⟩, z, hzh, hτ.symm⟩
  have hv2 : v < σ (0, 0) 0 := by rw [kf.of 0 0] at v2; exact v2
  have h8v := h8 v v1 hv2
  by_cases e : v = u
  · subst e
    have := pf_high hN' hF' hb' hc' hee' hVτ h6' h7' h12' (v := v) ⟨v1, v2⟩ (by rw [kf.own 5]; exact he)
    refine ⟨by rw [k6, if_pos rfl]; omega, this⟩
  · rw [k6, if_neg e, kf.of 0 0]
    exact h8v
/-! a sweep -/
def act (σ : Mem) (b : Nat) (s t v : Int) : Prop := 0 < σ (b + 6, 5) v ∧ v ≠ t ∧ (v ≠ s ∨ σ (b + 6, 6) v < σ (0, 0) 0)
def HS (σ : Mem) (b : Nat) : Int := sm (fun v => σ (b + 6, 6) v) (σ (0, 0) 0).toNat
theorem HS_rg {σ : Mem} {b : Nat} {N0 : (Int → Bool) → Int} {s t B : Int} (h : pfI σ b N0 s t B) : 0 ≤ HS σ b ∧ HS σ b ≤ 1128 := by
  have hn := h.1.1.1
  have h8 := h.2.2.2.2.2.2.2.2.1
  refine ⟨sm_nn fun a h1 h2 => (h8 a h1 (by omega)).1, ?_⟩
  have h1 := sm_le (f := fun v => σ (b + 6, 6) v) (g := fun _ => 47) (n := (σ (0, 0) 0).toNat) (fun a h1 h2 => by
    have := (h8 a h1 (by omega)).2
    show σ (b + 6, 6) a ≤ 47
    omega)
  rw [sm_const] at h1
  have h2 : HS σ b = sm (fun v => σ (b + 6, 6) v) (σ (0, 0) 0).toNat := rfl
  omega
theorem HS_same {σ τ : Mem} {b : Nat} (e0 : τ (0, 0) = σ (0, 0)) (e6 : τ (b + 6, 6) = σ (b + 6, 6)) : HS τ b = HS σ b := by
  unfold HS
  rw [e0, e6]
theorem HS_up {σ : Mem} {b : Nat} {u z : Int} (hu : 0 ≤ u ∧ u < σ (0, 0) 0) : HS (mset σ (b + 6, 6) u z) b = HS σ b - σ (b + 6, 6) u + z := by
  have kf : Fr b [6] σ (mset σ (b + 6, 6) u z) := Fr.set (by decide)
  unfold HS
  rw [kf.of 0 0]
  have h1 : sm (fun v => mset σ (b + 6, 6) u z (b + 6, 6) v) (σ (0, 0) 0).toNat = sm (fun v => if v = u then z else σ (b + 6, 6) v) (σ (0, 0) 0).toNat := sm_cong fun a _ _ => mset_at
  rw [h1, sm_upd (fun v => σ (b + 6, 6) v) hu.1 (by omega)]
def swI (σ0 σ : Mem) (b : Nat) (N0 : (Int → Bool) → Int) (s t B f k y : Int) : Prop := pfI σ b N0 s t B ∧ Fr b [3, 5, 6] σ0 σ ∧ (y = 0 ∨ y = 1) ∧ (y = 0 → σ = σ0 ∧ ∀ v, 0 ≤ v → v < k → ¬ act σ b s t v) ∧ (y = 1 → 0 ≤ f) ∧ HS σ0 b ≤ HS σ b ∧ (HS σ0 b < HS σ b → y = 1) ∧
  (HS σ b = HS σ0 b → (∀ v, 0 ≤ v → v < k → act σ b s t v → σ (b + 6, 6) v ≤ f - 1) ∧ ∀ v, k ≤ v → v < σ (0, 0) 0 → act σ b s t v → σ (b + 6, 6) v ≤ f)
theorem swI_0 {σ : Mem} {b : Nat} {N0 : (Int → Bool) → Int} {s t B f : Int} (h : pfI σ b N0 s t B) (hf : ∀ v, 0 ≤ v → v < σ (0, 0) 0 → act σ b s t v → σ (b + 6, 6) v ≤ f) : swI σ σ b N0 s t B f 0 0 := ⟨h, Fr.rf, Or.inl rfl, fun _ => ⟨rfl, fun v h1 h2 => by omega⟩, fun e => by omega, Int.le_refl _, fun e => by omega, fun _ => ⟨fun v h1 h2 => by omega, hf⟩⟩
theorem swI_skip {σ0 σ : Mem} {b : Nat} {N0 : (Int → Bool) → Int} {s t B f k y : Int} (h : swI σ0 σ b N0 s t B f k y) (hk : ¬ act σ b s t k) : swI σ0 σ b N0 s t B f (k + 1) y := by
  obtain ⟨h1, h2, h3, h4, h5, h6, h7, h8⟩ := h
  refine ⟨h1, h2, h3, fun e => ⟨(h4 e).1, fun v v1 v2 => ?_⟩, h5, h6, h7, fun e => ⟨fun v v1 v2 v3 => ?_, fun v v1 v2 v3 => (h8 e).2 v (by omega) v2 v3⟩⟩
  · by_cases e2 : v = k
    · rw [e2]; exact hk
    · exact (h4 e).2 v v1 (by omega)
  · by_cases e2 : v = k
    · rw [e2] at v3; exact absurd v3 hk
    · exact (h8 e).1 v v1 (by omega) v3
theorem swI_step {σ0 σ σ1 τ : Mem} {b : Nat} {N0 : (Int → Bool) → Int} {s t B f k y : Int} (h : swI σ0 σ b N0 s t B f k y) (hk : 0 ≤ k ∧ k < σ (0, 0) 0) (ha : act σ b s t k) (hp : poP σ σ1 b N0 s t B k) (hl : lfP σ1 τ b N0 s t B k) : swI σ0 τ b N0 s t B f (k + 1) 1 := by
  obtain ⟨h1, h2, h3, h4, h5, h6, h7, h8⟩ := h
  obtain ⟨p1, p2, p3, p4⟩ := hp
  have hh1 : HS σ1 b = HS σ b := HS_same (p2.of 0 0) (p2.own 6)
  have hf0 : 0 ≤ f := by
    by_cases e : HS σ b = HS σ0 b
    · have q1 := (h8 e).2 k (Int.le_refl k) hk.2 ha
      have q2 := (h1.2.2.2.2.2.2.2.2.1 k hk.1 hk.2).1
      omega
    · exact h5 (h7 (by omega))
  rcases hl with ⟨l1, rfl⟩ | ⟨l1, l2, z, l3, rfl⟩
  · refine ⟨p1, h2.tr (p2.up (by decide)), Or.inr rfl, fun e => by omega, fun _ => hf0, by omega, fun _ => rfl, fun e => ?_⟩
    have e8 := h8 (by omega)
    have key : ∀ v, 0 ≤ v → v < σ (0, 0) 0 → act τ b s t v → v ≠ k ∧ (act σ b s t v ∨ τ (b + 6, 6) v ≤ f - 1) := by
      intro v v1 v2 v3
      have hvk : v ≠ k := by
        intro e3
        have := v3.1
        rw [e3] at this
        omega
      refine ⟨hvk, ?_⟩
      by_cases e3 : τ (b + 6, 5) v = σ (b + 6, 5) v
      · left
        unfold act at v3 ⊢
        rw [e3, p2.own 6, p2.of 0 0] at v3
        exact v3
      · right
        have q1 := p3 v v1 (by rw [p2.of 0 0]; exact v2) hvk e3
        have q2 := e8.2 k (Int.le_refl k) hk.2 ha
        rw [p2.own 6] at q1 ⊢
        omega
    refine ⟨fun v v1 v2 v3 => ?_, fun v v1 v2 v3 => ?_⟩
    · obtain ⟨q1, q2⟩ := key v v1 (by omega) v3
      rcases q2 with q2 | q2
      · have := e8.1 v v1 (by omega) q2
        rw [p2.own 6]; exact this
      · exact q2
    · rw [p2.of 0 0] at v2
      obtain ⟨q1, q2⟩ := key v (by omega) v2 v3
      rcases q2 with q2 | q2
      · have := e8.2 v (by omega) v2 q2
        rw [p2.own 6]; exact this
      · omega
  · have hu : HS (mset σ1 (b + 6, 6) k z) b = HS σ1 b - σ1 (b + 6, 6) k + z := HS_up (by rw [p2.of 0 0]; exact hk)
    refine ⟨l2, (h2.tr (p2.up (by decide))).tr (Fr.set (by decide)), Or.inr rfl, fun e => by omega, fun _ => hf0, by omega, fun _ => rfl, fun e => by omega⟩
/-- a sweep's answer -/
def swP (σ τ : Mem) (b : Nat) (N0 : (Int → Bool) → Int) (s t B f y : Int) : Prop := pfI τ b N0 s t B ∧ Fr b [3, 5, 6] σ τ ∧ ((y = 0 ∧ ∀ v, 0 ≤ v → v < τ (0, 0) 0 → ¬ act τ b s t v) ∨ (y = 1 ∧ 0 ≤ f ∧ (HS σ b < HS τ b ∨ (HS τ b = HS σ b ∧ ∀ v, 0 ≤ v → v < τ (0, 0) 0 → act τ b s t v → τ (b + 6, 6) v ≤ f - 1))))
theorem swI_end {σ0 σ : Mem} {b : Nat} {N0 : (Int → Bool) → Int} {s t B f k y : Int} (h : swI σ0 σ b N0 s t B f k y) (hk : σ (0, 0) 0 ≤ k) : swP σ0 σ b N0 s t B f y := by
  obtain ⟨h1, h2, h3, h4, h5, h6, h7, h8⟩ := h
  refine ⟨h1, h2, ?_⟩
  rcases h3 with e | e
  · exact Or.inl ⟨e, fun v v1 v2 => (h4 e).2 v v1 (by omega)⟩
  · refine Or.inr ⟨e, h5 e, ?_⟩
    by_cases e2 : HS σ b = HS σ0 b
    · exact Or.inr ⟨e2, fun v v1 v2 v3 => (h8 e2).1 v v1 (by omega) v3⟩
    · exact Or.inl (by omega)
/-! the whole route -/
def rtI (σ0 σ : Mem) (b : Nat) (N0 : (Int → Bool) → Int) (s t B f k y : Int) : Prop := pfI σ b N0 s t B ∧ Fr b [3, 5, 6, 7, 11, 12] σ0 σ ∧ (y = 0 ∨ y = 1) ∧ (y = 0 → ∀ v, 0 ≤ v → v < σ (0, 0) 0 → ¬ act σ b s t v) ∧ (∀ v, 0 ≤ v → v < σ (0, 0) 0 → act σ b s t v → σ (b + 6, 6) v ≤ f) ∧ -1 ≤ f ∧ (0 ≤ k ∧ k ≤ 70000) ∧ (y = 1 → k + (1200 - HS σ b) * 50 + f ≤ 61000)
theorem rtI_step {σ0 σ τ : Mem} {b : Nat} {N0 : (Int → Bool) → Int} {s t B f k y z : Int} (h : rtI σ0 σ b N0 s t B f k y) (hy : y = 1) (hw : swP σ τ b N0 s t B f z) : ∃ f', rtI σ0 τ b N0 s t B f' (k + 1) z := by
  obtain ⟨h1, h2, h3, h4, h5, h6, h7, h8⟩ := h
  obtain ⟨w1, w2, w3⟩ := hw
  have hn := w1.1.1.1
  have hr := HS_rg w1
  have hr0 := HS_rg h1
  have h8 := h8 hy
  have hb : ∀ v, 0 ≤ v → v < τ (0, 0) 0 → act τ b s t v → τ (b + 6, 6) v ≤ 47 := fun v v1 v2 _ => by
    have := (w1.2.2.2.2.2.2.2.2.1 v v1 v2).2
    omega
  rcases w3 with ⟨e, w4⟩ | ⟨e, w4, w5⟩
  · refine ⟨-1, w1, h2.tr (w2.up (by decide)), Or.inl e, fun _ => w4, fun v v1 v2 v3 => absurd v3 (w4 v v1 v2), by omega, by omega, fun q => by omega⟩
  · rcases w5 with w5 | ⟨w5, w6⟩
    · exact ⟨47, w1, h2.tr (w2.up (by decide)), Or.inr e, fun q => by omega, hb, by omega, by omega, fun _ => by omega⟩
    · exact ⟨f - 1, w1, h2.tr (w2.up (by decide)), Or.inr e, fun q => by omega, w6, by omega, by omega, fun _ => by omega⟩
/-- what route makes and answers -/
def rtP (σ τ : Mem) (b : Nat) (s t B z : Int) : Prop := 0 ≤ z ∧ FlOk τ b ∧ Fr b [3, 5, 6, 7, 11, 12] σ τ ∧ (∀ X, net τ b X = net σ b X + ind X s z - ind X t z) ∧ (s < 0 ∨ t < 0 ∨ s = t ∨ B ≤ 0 → z = 0 ∧ τ = σ) ∧ (0 < B → z ≤ B) ∧ (0 ≤ s → 0 ≤ t → s ≠ t → 0 < B → z = B ∨ ∃ X : Int → Bool, X s = true ∧ ¬ X t = true ∧ clo τ b X)
theorem rtP_no {σ : Mem} {b : Nat} {s t B : Int} (hF : FlOk σ b) (h : s < 0 ∨ t < 0 ∨ s = t ∨ B ≤ 0) : rtP σ σ b s t B 0 := ⟨Int.le_refl 0, hF, Fr.rf, fun X => by rw [ind_0, ind_0]; omega, fun _ => ⟨rfl, rfl⟩, fun h => by omega, fun h1 h2 h3 h4 => by omega⟩
theorem sx_ends {σ : Mem} {b : Nat} {X : Int → Bool} {s t : Int} (hs : 0 ≤ s ∧ s < σ (0, 0) 0) (ht : 0 ≤ t ∧ t < σ (0, 0) 0) (hst : s ≠ t) (h : ∀ v, 0 ≤ v → v < σ (0, 0) 0 → v ≠ s → v ≠ t → σ (b + 6, 5) v = 0) : sx σ b X = ind X s (σ (b + 6, 5) s) + ind X t (σ (b + 6, 5) t) := by
  unfold sx
  have h1 : sm (fun j => ind X j (σ (b + 6, 5) j)) (σ (0, 0) 0).toNat = sm (fun j => if j = t then ind X t (σ (b + 6, 5) t) else if j = s then ind X s (σ (b + 6, 5) s) else 0) (σ (0, 0) 0).toNat := by
    refine sm_cong fun j h1 h2 => ?_
    show ind X j (σ (b + 6, 5) j) = _
    by_cases e : j = t
    · rw [if_pos e, e]
    · rw [if_neg e]
      by_cases e2 : j = s
      · rw [if_pos e2, e2]
      · rw [if_neg e2, h j h1 (by omega) e2 e, ind_0]
  rw [h1, sm_upd (fun j => if j = s then ind X s (σ (b + 6, 5) s) else 0) ht.1 (by omega), sm_upd (fun _ => 0) hs.1 (by omega), sm_zero, if_neg (Ne.symm hst)]
  omega
theorem rtI_end {σ0 σ : Mem} {b : Nat} {s t B f k y : Int} (h : rtI σ0 σ b (net σ0 b) s t B f k y) (hy : y = 0) (hB : 0 < B) : rtP σ0 σ b s t B (σ (b + 6, 5) t) := by
  obtain ⟨h1, h2, -, h4, -⟩ := h
  have h4 := h4 hy
  obtain ⟨⟨hN, hA, hF⟩, hb, hc, h0, he, hV, h6, h7, h8, ⟨h9, h10⟩, h11, h12, h13, h14, h15⟩ := id h1
  have hz : ∀ v, 0 ≤ v → v < σ (0, 0) 0 → v ≠ s → v ≠ t → σ (b + 6, 5) v = 0 := fun v v1 v2 v3 v4 => by
    have := he v v1 v2
    by_cases q : 0 < σ (b + 6, 5) v
    · exact absurd ⟨q, v4, Or.inl v3⟩ (h4 v v1 v2)
    · omega
  have hsx := fun X : Int → Bool => sx_ends (X := X) h11 h12 h13 hz
  have hal := hb (fun _ => true)
  rw [net_all, hsx, h0, ind_t rfl, ind_t rfl, ind_t rfl] at hal
  have es := he s h11.1 h11.2
  have et := he t h12.1 h12.2
  refine ⟨et, hF, h2, fun X => ?_, fun q => by omega, fun _ => by omega, fun _ _ _ _ => ?_⟩
  · have := hb X
    rw [hsx, show B = σ (b + 6, 5) s + σ (b + 6, 5) t by omega, ind_add] at this
    omega
  · by_cases q : 0 < σ (b + 6, 5) s
    · right
      have hs : ¬ σ (b + 6, 6) s < σ (0, 0) 0 := fun q2 => h4 s h11.1 h11.2 ⟨q, h13, Or.inr q2⟩
      obtain ⟨i, hi, hk⟩ := pig (h := σ (b + 6, 6)) (n := (σ (0, 0) 0).toNat) (c := fun i => (i : Int)) (fun i j hij hj => by
        show (i : Int) ≠ (j : Int)
        omega)
      have i1 : i ≠ 0 := by
        intro e
        subst e
        exact hk t h12.1 (by omega) h6
      have i2 : i ≠ (σ (0, 0) 0).toNat := by
        intro e
        exact hk s h11.1 (by omega) (by show σ (b + 6, 6) s = (i : Int); omega)
      refine ⟨_, ?_, ?_, gap_clo hN hV (k := (i : Int)) (fun v v1 v2 => hk v v1 (by omega))⟩
      · exact decide_eq_true (by omega)
      · intro q3
        have := of_decide_eq_true q3
        omega
    · left; omega
end
section
/-! THE FIRST HEIGHTS: breadth first from the goal, the mathematics -/
theorem ctB_cong {p q : Int → Bool} : ∀ {n : Nat}, (∀ v : Nat, v < n → q (v : Int) = p (v : Int)) → ctB q n = ctB p n
  | 0, _ => rfl
  | n + 1, h => by
    unfold ctB
    rw [ctB_cong (n := n) (fun v hv => h v (by omega)), h n (by omega)]
theorem ctB_add {p q : Int → Bool} {w : Nat} (hp : ¬ p (w : Int) = true) (hq : q (w : Int) = true) : ∀ {n : Nat}, w < n → (∀ v : Nat, v < n → v ≠ w → q (v : Int) = p (v : Int)) → ctB q n = ctB p n + 1
  | 0, hw, _ => absurd hw (Nat.not_lt_zero w)
  | n + 1, hw, h => by
    unfold ctB
    by_cases e : w = n
    · subst e
      rw [ctB_cong (n := w) (fun v hv => h v (by omega) (by omega)), if_pos hq, if_neg hp]
    · rw [ctB_add hp hq (n := n) (by omega) (fun v hv hv2 => h v (by omega) hv2), h n (by omega) (Ne.symm e)]
      omega
theorem ctB_full {p : Int → Bool} : ∀ {n : Nat}, n ≤ ctB p n → ∀ v : Nat, v < n → p (v : Int) = true
  | 0, _, v, hv => absurd hv (Nat.not_lt_zero v)
  | n + 1, h, v, hv => by
    have h1 := ctB_le p n
    unfold ctB at h
    by_cases hn : p (n : Int) = true
    · rw [if_pos hn] at h
      by_cases e : v = n
      · rw [e]; exact hn
      · exact ctB_full (n := n) (by omega) v (by omega)
    · rw [if_neg hn] at h
      omega
def low (σ : Mem) (b : Nat) : Int → Bool := fun v => decide (σ (b + 6, 6) v < σ (0, 0) 0)
/-- what stands in the queue, and the heights, with c found -/
def bfQ (σ : Mem) (b : Nat) (t c : Int) : Prop := (0 ≤ t ∧ t < σ (0, 0) 0) ∧ σ (b + 6, 6) t = 0 ∧ (1 ≤ c ∧ c = (ctB (low σ b) (σ (0, 0) 0).toNat : Int)) ∧
  (∀ j, 0 ≤ j → j < c → (0 ≤ σ (b + 6, 7) j ∧ σ (b + 6, 7) j < σ (0, 0) 0) ∧ 0 ≤ σ (b + 6, 6) (σ (b + 6, 7) j) ∧ σ (b + 6, 6) (σ (b + 6, 7) j) ≤ j ∧ σ (b + 6, 6) (σ (b + 6, 7) j) < σ (0, 0) 0) ∧
  (∀ v, 0 ≤ v → v < σ (0, 0) 0 → σ (b + 6, 6) v = σ (0, 0) 0 ∨ (σ (b + 6, 6) v < σ (0, 0) 0 ∧ ∃ j, 0 ≤ j ∧ j < c ∧ σ (b + 6, 7) j = v)) ∧
  (∀ i j, 0 ≤ i → i ≤ j → j < c → σ (b + 6, 6) (σ (b + 6, 7) i) ≤ σ (b + 6, 6) (σ (b + 6, 7) j))
/-- the nodes at the places below x are done -/
def bfD (σ : Mem) (b : Nat) (x : Int) : Prop := ∀ j, 0 ≤ j → j < x → ∀ a, 0 ≤ a → a < σ (0, 1) 0 → (σ (0, 2) a = σ (b + 6, 7) j ∨ σ (0, 3) a = σ (b + 6, 7) j) → 0 < rmF σ b a (otF σ a (σ (b + 6, 7) j)) → σ (b + 6, 6) (otF σ a (σ (b + 6, 7) j)) ≤ σ (b + 6, 6) (σ (b + 6, 7) j) + 1
def bfI (σ : Mem) (b : Nat) (t c x : Int) : Prop := (NetOk σ ∧ AdjOk σ) ∧ bfQ σ b t c ∧ bfD σ b x ∧ (0 ≤ x ∧ x ≤ c) ∧ ∃ d, (∀ j, 0 ≤ j → j < c → σ (b + 6, 6) (σ (b + 6, 7) j) ≤ d + 1) ∧ ∀ j, x ≤ j → j < c → d ≤ σ (b + 6, 6) (σ (b + 6, 7) j)
/-- the node at the place x is at work, its first i arcs done -/
def bfW (σ : Mem) (b : Nat) (t c x i : Int) : Prop := (NetOk σ ∧ AdjOk σ) ∧ bfQ σ b t c ∧ bfD σ b x ∧ (0 ≤ x ∧ x < c) ∧ (∀ j, 0 ≤ j → j < c → σ (b + 6, 6) (σ (b + 6, 7) j) ≤ σ (b + 6, 6) (σ (b + 6, 7) x) + 1) ∧
  ∀ j, 0 ≤ j → j < i → 0 < rmF σ b (σ (1, (σ (b + 6, 7) x).toNat) j) (otF σ (σ (1, (σ (b + 6, 7) x).toNat) j) (σ (b + 6, 7) x)) → σ (b + 6, 6) (otF σ (σ (1, (σ (b + 6, 7) x).toNat) j) (σ (b + 6, 7) x)) ≤ σ (b + 6, 6) (σ (b + 6, 7) x) + 1
theorem bfW_0 {σ : Mem} {b : Nat} {t c x : Int} (h : bfI σ b t c x) (hx : x < c) : bfW σ b t c x 0 := by
  obtain ⟨h1, h2, h3, h4, d, h5, h6⟩ := h
  refine ⟨h1, h2, h3, ⟨h4.1, hx⟩, fun j j1 j2 => ?_, fun j j1 j2 => by omega⟩
  have := h5 j j1 j2
  have := h6 x (Int.le_refl x) hx
  omega
theorem bfW_end {σ : Mem} {b : Nat} {t c x i : Int} (h : bfW σ b t c x i) (hi : σ (0, 4) (σ (b + 6, 7) x) ≤ i) : bfI σ b t c (x + 1) := by
  obtain ⟨h1, h2, h3, h4, h5, h6⟩ := h
  refine ⟨h1, h2, fun j j1 j2 a a1 a2 a3 a4 => ?_, ⟨by omega, by omega⟩, σ (b + 6, 6) (σ (b + 6, 7) x), h5, fun j j1 j2 => h2.2.2.2.2.2 x j h4.1 (by omega) j2⟩
  by_cases e : j = x
  · subst e
    obtain ⟨k, hk, ek⟩ := adj_at h1.2 ⟨a1, a2⟩ a3
    have := h6 k hk.1 (by omega)
    rw [ek] at this
    exact this a4
  · exact h3 j j1 (by omega) a a1 a2 a3 a4
theorem bfW_cnt {σ : Mem} {b : Nat} {t c x i : Int} (h : bfW σ b t c x i) : c ≤ σ (0, 0) 0 := by
  have h1 := h.2.1.2.2.1.2
  have h2 := ctB_le (low σ b) (σ (0, 0) 0).toNat
  have := h.1.1.1
  omega
theorem bfW_new {σ : Mem} {b : Nat} {t c x i : Int} (h : bfW σ b t c x i) {w : Int} (hw : 0 ≤ w ∧ w < σ (0, 0) 0) (hn : σ (b + 6, 6) w = σ (0, 0) 0) : c < σ (0, 0) 0 := by
  have h1 := h.2.1.2.2.1.2
  have hq := ctB_lt (p := low σ b) (q := fun _ => true) (fun _ _ _ => rfl) (v := w.toNat) rfl (by
    intro q
    unfold low at q
    have := of_decide_eq_true q
    rw [Int.toNat_of_nonneg hw.1] at this
    omega) (σ (0, 0) 0).toNat (by omega)
  have := ctB_le (fun _ => true) (σ (0, 0) 0).toNat
  omega
theorem bfW_skip {σ : Mem} {b : Nat} {t c x i : Int} (h : bfW σ b t c x i) (hi : 0 ≤ i ∧ i < σ (0, 4) (σ (b + 6, 7) x)) (hs : σ (b + 6, 6) (otF σ (σ (1, (σ (b + 6, 7) x).toNat) i) (σ (b + 6, 7) x)) ≠ σ (0, 0) 0 ∨ ¬ 0 < rmF σ b (σ (1, (σ (b + 6, 7) x).toNat) i) (otF σ (σ (1, (σ (b + 6, 7) x).toNat) i) (σ (b + 6, 7) x)) ∨ 24 ≤ c) : bfW σ b t c x (i + 1) := by
  have hcn := bfW_cnt h
  have hnew := fun w hw hn => bfW_new h (w := w) hw hn
  obtain ⟨h1, h2, h3, h4, h5, h6⟩ := h
  obtain ⟨u1, -⟩ := h2.2.2.2.1 x h4.1 h4.2
  have hn := h1.1.1
  refine ⟨h1, h2, h3, h4, h5, fun j j1 j2 j3 => ?_⟩
  by_cases e : j = i
  · subst e
    obtain ⟨ha, hua⟩ := h1.2.2.2.1 (σ (b + 6, 7) x) j u1.1 (by omega) hi.1 hi.2
    obtain ⟨-, w1, -⟩ := ends h1.1 ha hua
    rcases h2.2.2.2.2.1 _ w1.1 w1.2 with q | ⟨q, k, k1, k2, k3⟩
    · rcases hs with hs | hs | hs
      · exact absurd q hs
      · exact absurd j3 hs
      · have := hnew _ w1 q
        omega
    · have := h5 k k1 k2
      rw [k3] at this
      exact this
  · exact h6 j j1 (by omega) j3
theorem bfW_step {σ τ : Mem} {b : Nat} {t c x i w : Int} (h : bfW σ b t c x i) (hi : 0 ≤ i ∧ i < σ (0, 4) (σ (b + 6, 7) x)) (hw : w = otF σ (σ (1, (σ (b + 6, 7) x).toNat) i) (σ (b + 6, 7) x)) (hn : σ (b + 6, 6) w = σ (0, 0) 0) (hf : Fr b [6, 7] σ τ) (e6 : ∀ v, τ (b + 6, 6) v = if v = w then σ (b + 6, 6) (σ (b + 6, 7) x) + 1 else σ (b + 6, 6) v) (e7 : ∀ j, τ (b + 6, 7) j = if j = c then w else σ (b + 6, 7) j) : bfW τ b t (c + 1) x (i + 1) := by
  have hnew := fun w hw hn => bfW_new h (w := w) hw hn
  obtain ⟨h1, ⟨q1, q2, q3, q4, q5, q6⟩, h3, h4, h5, h6⟩ := h
  obtain ⟨u1, u2, u3, u4⟩ := q4 x h4.1 h4.2
  have hn0 := h1.1.1
  obtain ⟨ha, hua⟩ := h1.2.2.2.1 (σ (b + 6, 7) x) i u1.1 (by omega) hi.1 hi.2
  obtain ⟨-, w1, -⟩ := ends h1.1 ha hua
  rw [← hw] at w1
  have hc := hnew w w1 hn
  have hnt : w ≠ t := by intro e; rw [e, q2] at hn; omega
  have ne7 : ∀ j, 0 ≤ j → j < c → σ (b + 6, 7) j ≠ w := fun j j1 j2 e => by
    have := (q4 j j1 j2).2.2.2
    rw [e] at this
    omega
  have o7 : ∀ j, 0 ≤ j → j < c → τ (b + 6, 7) j = σ (b + 6, 7) j := fun j j1 j2 => by rw [e7, if_neg (by omega)]
  have o6 : ∀ j, 0 ≤ j → j < c → τ (b + 6, 6) (σ (b + 6, 7) j) = σ (b + 6, 6) (σ (b + 6, 7) j) := fun j j1 j2 => by rw [e6, if_neg (ne7 j j1 j2)]
  have n7 : τ (b + 6, 7) c = w := by rw [e7, if_pos rfl]
  have n6 : τ (b + 6, 6) w = σ (b + 6, 6) (σ (b + 6, 7) x) + 1 := by rw [e6, if_pos rfl]
  have ux : τ (b + 6, 7) x = σ (b + 6, 7) x := o7 x h4.1 h4.2
  have hx6 : τ (b + 6, 6) (τ (b + 6, 7) x) = σ (b + 6, 6) (σ (b + 6, 7) x) := by rw [ux, o6 x h4.1 h4.2]
  have eo : ∀ a v, otF τ a v = otF σ a v := fun a v => by unfold otF; rw [hf.of 0 2, hf.of 0 3]
  have er : ∀ a v, rmF τ b a v = rmF σ b a v := fun a v => by unfold rmF; rw [hf.of 0 2, hf.own 2, hf.own 3]
  have hle : ∀ v, σ (b + 6, 6) v ≤ σ (b + 6, 6) (σ (b + 6, 7) x) + 1 → τ (b + 6, 6) v ≤ σ (b + 6, 6) (σ (b + 6, 7) x) + 1 := fun v hv => by
    rw [e6]
    split
    · omega
    · exact hv
  refine ⟨⟨hf.net h1.1, hf.adj h1.2⟩, ⟨by rw [hf.of 0 0]; exact q1, by rw [e6, if_neg (Ne.symm hnt)]; exact q2, ⟨by omega, ?_⟩, fun j j1 j2 => ?_, fun v v1 v2 => ?_, fun j k j1 j2 j3 => ?_⟩, fun j j1 j2 a a1 a2 a3 a4 => ?_, ⟨h4.1, by omega⟩, fun j j1 j2 => ?_, fun j j1 j2 j3 => ?_⟩
  · rw [hf.of 0 0, ctB_add (p := low σ b) (q := low τ b) (w := w.toNat) (by
      intro q
      unfold low at q
      have := of_decide_eq_true q
      rw [Int.toNat_of_nonneg w1.1] at this
      omega) (by
      unfold low
      rw [Int.toNat_of_nonneg w1.1, n6, hf.of 0 0]
      exact decide_eq_true (by omega)) (by omega) (fun v v1 v2 => by
      unfold low
      rw [e6, if_neg (by omega), hf.of 0 0])]
    omega
  · rw [hf.of 0 0]
    by_cases e : j = c
    · subst e
      rw [n7, n6]
      exact ⟨w1, by omega, by omega, by omega⟩
    · rw [o7 j j1 (by omega), o6 j j1 (by omega)]
      exact q4 j j1 (by omega)
  · rw [hf.of 0 0] at v2 ⊢
    by_cases e : v = w
    · right
      subst e
      exact ⟨by rw [n6]; omega, c, by omega, by omega, n7⟩
    · rw [e6, if_neg e]
      rcases q5 v v1 v2 with k | ⟨k, j, j1, j2, j3⟩
      · exact Or.inl k
      · exact Or.inr ⟨k, j, j1, by omega, by rw [o7 j j1 j2]; exact j3⟩
  · by_cases e : k = c
    · subst e
      rw [n7, n6]
      by_cases e2 : j = k
      · subst e2
        rw [n7, n6]; omega
      · rw [o7 j j1 (by omega), o6 j j1 (by omega)]
        exact h5 j j1 (by omega)
    · rw [o7 j j1 (by omega), o6 j j1 (by omega), o7 k (by omega) (by omega), o6 k (by omega) (by omega)]
      exact q6 j k j1 j2 (by omega)
  · rw [hf.of 0 1] at a2
    rw [hf.of 0 2, hf.of 0 3, o7 j j1 (by omega)] at a3
    rw [o7 j j1 (by omega), eo, er] at a4
    rw [o7 j j1 (by omega), eo, o6 j j1 (by omega)]
    have hj := h3 j j1 j2 a a1 a2 a3 a4
    rw [e6]
    by_cases e : otF σ a (σ (b + 6, 7) j) = w
    · rw [if_pos e]
      rw [e, hn] at hj
      have := (q4 j j1 (by omega)).2.2.2
      omega
    · rw [if_neg e]; exact hj
  · rw [hx6]
    by_cases e : j = c
    · subst e
      rw [n7, n6]; omega
    · rw [o7 j j1 (by omega)]
      exact hle _ (h5 j j1 (by omega))
  · have e1 : τ (1, (σ (b + 6, 7) x).toNat) = σ (1, (σ (b + 6, 7) x).toNat) := hf.of 1 _
    rw [ux, e1, eo, er] at j3
    rw [hx6, ux, e1, eo]
    by_cases e : j = i
    · subst e
      rw [← hw, n6]; omega
    · exact hle _ (h6 j j1 (by omega) j3)
/-- the heights when the queue is through -/
def shP (σ τ : Mem) (b : Nat) (t : Int) : Prop := Fr b [6, 7] σ τ ∧ VL τ b ∧ τ (b + 6, 6) t = 0 ∧ ∀ v, 0 ≤ v → v < τ (0, 0) 0 → 0 ≤ τ (b + 6, 6) v ∧ τ (b + 6, 6) v ≤ τ (0, 0) 0
theorem bfI_end {σ : Mem} {b : Nat} {t c x : Int} (h : bfI σ b t c x) (he : c ≤ x ∨ σ (0, 0) 0 ≤ c) : VL σ b ∧ σ (b + 6, 6) t = 0 ∧ ∀ v, 0 ≤ v → v < σ (0, 0) 0 → 0 ≤ σ (b + 6, 6) v ∧ σ (b + 6, 6) v ≤ σ (0, 0) 0 := by
  obtain ⟨h1, ⟨q1, q2, q3, q4, q5, q6⟩, h3, h4, d, h5, h6⟩ := h
  have hn := h1.1.1
  have hbd : ∀ v, 0 ≤ v → v < σ (0, 0) 0 → 0 ≤ σ (b + 6, 6) v ∧ σ (b + 6, 6) v ≤ σ (0, 0) 0 := fun v v1 v2 => by
    rcases q5 v v1 v2 with e | ⟨e, j, j1, j2, j3⟩
    · omega
    · have := (q4 j j1 j2).2.1
      rw [j3] at this
      omega
  have key : ∀ a u, 0 ≤ a → a < σ (0, 1) 0 → (σ (0, 2) a = u ∨ σ (0, 3) a = u) → 0 < rmF σ b a u → σ (b + 6, 6) u ≤ σ (b + 6, 6) (otF σ a u) + 1 := by
    intro a u a1 a2 a3 a4
    obtain ⟨u1, w1, uw⟩ := ends h1.1 ⟨a1, a2⟩ a3
    have hback : otF σ a (otF σ a u) = u ∧ (σ (0, 2) a = otF σ a u ∨ σ (0, 3) a = otF σ a u) := by
      rcases a3 with rfl | rfl
      · rw [otF_t, otF_h h1.1 ⟨a1, a2⟩]; exact ⟨rfl, Or.inr rfl⟩
      · rw [otF_h h1.1 ⟨a1, a2⟩, otF_t]; exact ⟨rfl, Or.inl rfl⟩
    rcases q5 _ w1.1 w1.2 with e | ⟨e, j, j1, j2, j3⟩
    · have := (hbd u u1.1 u1.2).2
      omega
    · by_cases hjx : j < x
      · have := h3 j j1 hjx a a1 a2 (by rw [j3]; exact hback.2)
        rw [j3, hback.1] at this
        exact this a4
      · rcases he with he | he
        · omega
        · have hfull := ctB_full (p := low σ b) (n := (σ (0, 0) 0).toNat) (by omega) u.toNat (by omega)
          unfold low at hfull
          rw [Int.toNat_of_nonneg u1.1] at hfull
          have hfull := of_decide_eq_true hfull
          rcases q5 u u1.1 u1.2 with e2 | ⟨e2, k, k1, k2, k3⟩
          · omega
          · have r1 := h5 k k1 k2
            have r2 := h6 j (by omega) j2
            rw [k3] at r1
            rw [j3] at r2
            omega
  refine ⟨fun a a1 a2 => ⟨fun r => ?_, fun r => ?_⟩, q2, hbd⟩
  · have := key a _ a1 a2 (Or.inl rfl) (by rw [rmF_t]; exact r)
    rw [otF_t] at this
    exact this
  · have := key a _ a1 a2 (Or.inr rfl) (by rw [rmF_h h1.1 ⟨a1, a2⟩]; exact r)
    rw [otF_h h1.1 ⟨a1, a2⟩] at this
    exact this
theorem bfI_0 {σ : Mem} {b : Nat} {t : Int} (hN : NetOk σ) (hA : AdjOk σ) (ht : 0 ≤ t ∧ t < σ (0, 0) 0) (h6 : ∀ v, 0 ≤ v → v < σ (0, 0) 0 → σ (b + 6, 6) v = if v = t then 0 else σ (0, 0) 0) (h7 : σ (b + 6, 7) 0 = t) : bfI σ b t 1 0 := by
  have h0 : σ (b + 6, 6) t = 0 := by rw [h6 t ht.1 ht.2, if_pos rfl]
  have hz : ∀ n, ctB (fun _ => false) n = 0 := fun n => by
    induction n with
    | zero => rfl
    | succ n ih => unfold ctB; rw [ih]; rfl
  have hone : ctB (low σ b) (σ (0, 0) 0).toNat = 1 := by
    rw [ctB_add (p := fun _ => false) (q := low σ b) (w := t.toNat) (by simp) (by
      unfold low
      rw [Int.toNat_of_nonneg ht.1, h0]
      exact decide_eq_true (by omega)) (by omega) (fun v v1 v2 => by
      unfold low
      rw [h6 (v : Int) (by omega) (by omega), if_neg (by omega)]
      exact decide_eq_false (by omega)), hz]
  refine ⟨⟨hN, hA⟩, ⟨ht, h0, ⟨by omega, by rw [hone]; rfl⟩, fun j j1 j2 => ?_, fun v v1 v2 => ?_, fun i j i1 i2 i3 => ?_⟩, fun j j1 j2 => by omega, ⟨by omega, by omega⟩, 0, fun j j1 j2 => ?_, fun j j1 j2 => ?_⟩
  · have : j = 0 := by omega
    subst this
    rw [h7, h0]
    exact ⟨ht, by omega, by omega, by omega⟩
  · by_cases e : v = t
    · right
      subst e
      exact ⟨by omega, 0, by omega, by omega, h7⟩
    · left
      rw [h6 v v1 v2, if_neg e]
  · have : i = 0 := by omega
    subst this
    have : j = 0 := by omega
    subst this
    exact Int.le_refl _
  · have : j = 0 := by omega
    subst this
    rw [h7, h0]; omega
  · have : j = 0 := by omega
    subst this
    rw [h7, h0]; omega
/-- the beginning of the work -/
theorem pfI_0 {σ τ : Mem} {b : Nat} {s t B : Int} (hN : NetOk σ) (hA : AdjOk σ) (hF : FlOk σ b) (hf : Fr b [5, 6, 7, 11, 12] σ τ) (hV : VL τ b) (ht : τ (b + 6, 6) t = 0) (hb : ∀ v, 0 ≤ v → v < τ (0, 0) 0 → 0 ≤ τ (b + 6, 6) v ∧ τ (b + 6, 6) v ≤ τ (0, 0) 0) (h5 : ∀ v, 0 ≤ v → v < σ (0, 0) 0 → τ (b + 6, 5) v = if v = s then B else 0) (hs : 0 ≤ s ∧ s < σ (0, 0) 0) (htn : 0 ≤ t ∧ t < σ (0, 0) 0) (hst : s ≠ t) (hB : 0 ≤ B ∧ B ≤ 100000000) (e11 : τ (b + 6, 11) 0 = s) (e12 : τ (b + 6, 12) 0 = t) : pfI τ b (net σ b) s t B := by
  refine ⟨⟨hf.net hN, hf.adj hA, hf.fl (hN := hF)⟩, fun X => ?_, fun X => ?_, net_all, fun v v1 v2 => ?_, hV, ht, ?_, fun v v1 v2 => ?_, ⟨e11, e12⟩, by rw [hf.of 0 0]; exact hs, by rw [hf.of 0 0]; exact htn, hst, hB.1, hB.2⟩
  · rw [net_same (hf.of 0 1) (hf.of 0 2) (hf.of 0 3) (hf.own 3)]
    unfold sx
    rw [hf.of 0 0, sm_cong (g := fun v => if v = s then ind X s B else 0) (fun v v1 v2 => by
      show ind X v (τ (b + 6, 5) v) = _
      rw [h5 v v1 (by omega)]
      split
      · rename_i e; rw [e]
      · exact ind_0 X v), sm_upd (fun _ => 0) hs.1 (by omega), sm_zero]
    omega
  · rw [cpo_same (hf.of 0 1) (hf.of 0 2) (hf.of 0 3) (hf.own 2)]; exact net_le hN hF X
  · rw [hf.of 0 0] at v2
    rw [h5 v v1 v2]
    split <;> omega
  · exact (hb s hs.1 (by rw [hf.of 0 0]; exact hs.2)).2
  · have := hb v v1 v2
    rw [hf.of 0 0] at v2 this ⊢
    omega
theorem rtI_0 {σ0 σ : Mem} {b : Nat} {N0 : (Int → Bool) → Int} {s t B : Int} (h : pfI σ b N0 s t B) (hf : Fr b [3, 5, 6, 7, 11, 12] σ0 σ) : rtI σ0 σ b N0 s t B 47 0 1 := by
  have hr := HS_rg h
  have hn := h.1.1.1
  exact ⟨h, hf, Or.inr rfl, fun e => by omega, fun v v1 v2 _ => by
    have := (h.2.2.2.2.2.2.2.2.1 v v1 v2).2
    omega, by omega, by omega, fun _ => by omega⟩
end
section
/-! FILLING; a push in the memory; who is active -/
def mfill (σ : Mem) (i : Ix) (n : Int) (x : Int) : Mem := fun q j => if q = i ∧ 0 ≤ j ∧ j < n then x else σ q j
theorem mfill_id {σ : Mem} {i q : Ix} {n x : Int} (h : q ≠ i) : mfill σ i n x q = σ q := funext fun _ => if_neg fun e => h e.1
theorem mfill_in {σ : Mem} {i : Ix} {n x j : Int} (h0 : 0 ≤ j) (h1 : j < n) : mfill σ i n x i j = x := if_pos ⟨rfl, h0, h1⟩
theorem mfill_0 {σ : Mem} {i : Ix} {x : Int} : mfill σ i 0 x = σ := funext fun q => funext fun j => if_neg fun e => by omega
theorem mfill_s {σ : Mem} {i : Ix} {n x : Int} (h : 0 ≤ n) : mset (mfill σ i n x) i n x = mfill σ i (n + 1) x := by
  funext q j
  unfold mset mfill
  by_cases e : q = i
  · by_cases e2 : j = n
    · rw [if_pos ⟨e, e2⟩, if_pos ⟨e, by omega, by omega⟩]
    · rw [if_neg (fun k => e2 k.2)]
      by_cases e3 : 0 ≤ j ∧ j < n
      · rw [if_pos ⟨e, e3.1, e3.2⟩, if_pos ⟨e, by omega, by omega⟩]
      · rw [if_neg (fun k => e3 k.2), if_neg (fun k => by omega)]
  · rw [if_neg (fun k => e k.1), if_neg (fun k => e k.1), if_neg (fun k => e k.1)]
theorem Fr.fill {b k : Nat} {L : List Nat} {σ : Mem} {n x : Int} (h : k ∈ L) (h3 : k ≠ 3 := by decide) : Fr b L σ (mfill σ (b + 6, k) n x) := ⟨fun g j hq => mfill_id (fun e => by
  cases e
  rcases hq with hq | hq
  · exact hq rfl
  · exact hq h), fun j _ => congrFun (mfill_id (fun e => h3 (by cases e; rfl))) j⟩
theorem psP_of {σ σ1 σ2 τ : Mem} {b : Nat} {a u w x : Int} (h1 : σ1 = mset σ (b + 6, 3) a (σ (b + 6, 3) a + if σ (0, 2) a = u then x else -x)) (h2 : mset σ1 (b + 6, 5) u (σ1 (b + 6, 5) u - x) = σ2) (h3 : mset σ2 (b + 6, 5) w (σ2 (b + 6, 5) w + x) = τ) (hw : otF σ a u = w) (hu : u ≠ w) (ha : a < σ (0, 1) 0) : psP σ τ b a u x := by
  have f1 : Fr b [3] σ σ1 := by rw [h1]; exact Fr.set3 (by decide) ha
  have f2 : Fr b [5] σ1 σ2 := by rw [← h2]; exact Fr.set (by decide)
  have f3 : Fr b [5] σ2 τ := by rw [← h3]; exact Fr.set (by decide)
  refine ⟨((f1.up (by decide)).tr (f2.up (by decide))).tr (f3.up (by decide)), fun j => ?_, fun j => ?_⟩
  · rw [f3.own 3, f2.own 3, h1, mset_at]
  · rw [hw, ← h3, mset_at]
    have e2 : ∀ j, σ2 (b + 6, 5) j = if j = u then σ (b + 6, 5) u - x else σ (b + 6, 5) j := fun j => by
      rw [← h2, mset_at, f1.own 5]
    by_cases e : j = w
    · rw [if_pos e, if_pos e, e2, if_neg (Ne.symm hu)]
    · rw [if_neg e, if_neg e, e2]
theorem pf_net {σ : Mem} {b : Nat} {N0 : (Int → Bool) → Int} {s t B : Int} (h : pfI σ b N0 s t B) : NetOk σ ∧ AdjOk σ ∧ FlOk σ b := h.1
theorem pf_hgt {σ : Mem} {b : Nat} {N0 : (Int → Bool) → Int} {s t B : Int} (h : pfI σ b N0 s t B) {v : Int} (hv : 0 ≤ v ∧ v < σ (0, 0) 0) : 0 ≤ σ (b + 6, 6) v ∧ σ (b + 6, 6) v ≤ 47 := by
  have h1 := h.2.2.2.2.2.2.2.2.1 v hv.1 hv.2
  have h2 := h.1.1.1
  omega
theorem pf_ends {σ : Mem} {b : Nat} {N0 : (Int → Bool) → Int} {s t B : Int} (h : pfI σ b N0 s t B) : (σ (b + 6, 11) 0 = s ∧ σ (b + 6, 12) 0 = t) ∧ (0 ≤ s ∧ s < σ (0, 0) 0) ∧ (0 ≤ t ∧ t < σ (0, 0) 0) ∧ s ≠ t ∧ 0 ≤ B ∧ B ≤ 100000000 := h.2.2.2.2.2.2.2.2.2
end
section
/-! THE ROUTER -/

theorem dc_X5_findBehind : dcl yX5_findBehind 2 := ⟨by decide, by decide, by decide +kernel⟩
theorem dc_X5_setHeights : dcl yX5_setHeights 0 := ⟨by decide, by decide, by decide +kernel⟩
theorem dc_X5_isActive : dcl yX5_isActive 1 := ⟨by decide, by decide, by decide +kernel⟩
theorem dc_X5_pushOut : dcl yX5_pushOut 1 := ⟨by decide, by decide, by decide +kernel⟩
theorem dc_X5_lift : dcl yX5_lift 1 := ⟨by decide, by decide, by decide +kernel⟩
theorem dc_X5_sweepOnce : dcl yX5_sweepOnce 0 := ⟨by decide, by decide, by decide +kernel⟩
theorem dc_X5_route : dcl yX5_route 3 := ⟨by decide, by decide, by decide +kernel⟩

set_option maxHeartbeats 4000000 in
set_option maxRecDepth 100000 in
theorem c_J7_fill (l : Launch) (D : va_G) (cs : Nat → ClassId) (ad : Ix → Nat) (hap : Apart idsF ad) {σ : Mem} {g k n : Nat} {x : Int} (hi : ((g, k) : Ix) ∈ idsF) (he : ∀ τ, enc cs ad τ (g, k) = arI cs τ (g, k) n) (ho : owner (g, k) = (g, k)) (hn : n < 2147483648) : CV l D cs idsF ad yJ7_fill_53178 cJ7_fill_53178 4 0 [(.ref (ad (g, k))), (jI x)] σ (fun τ => τ = mfill σ (g, k) n x) := by
  refine CV.of RJ7 hap idsF_nd (by decide) rfl (Nat.le_of_ble_eq_true rfl) ?_
  intro pg ev s0 mi av bl mt cd X K hr
  refine zr_iconst X dJ7_fill_53178_0 ?_
  refine zr_istoren X dJ7_fill_53178_1 (by decide) rfl ?_
  refine zr_aloadn X dJ7_fill_53178_2 rfl ?_
  refine zr_alen X K (n := n) hi (he _) dJ7_fill_53178_3 ?_
  refine zr_istoren X dJ7_fill_53178_4 (by decide) rfl ?_
  have loop_5 : ∀ (n_5 : Nat) (i : Int) (τ : Mem), ((0 ≤ i ∧ i ≤ n) ∧ τ = mfill σ (g, k) i x) → ((n : Int) - i).toNat < n_5 → Wx pg l ev (rmm 0 0 0) s0 mi av bl mt cd D cs idsF ad (Rg idsF ad) s0.heap 4 (MQ bl (qV D cs idsF ad ((fun τ => τ = mfill σ (g, k) n x))) av s0 0 0 (Rg idsF ad)) 0 0 τ 5 [some (.ref (ad (g, k))), some (jI x), some (jI i), some (jI ((n : Int)))] [] := by
    intro n_5
    induction n_5 with
    | zero => exact fun i τ hinv hn => absurd hn (Nat.not_lt_zero _)
    | succ n_5 ih_5 =>
      intro i τ hI_5 hn_5
      have hi0 := hI_5.1
      refine zr_iloadn X dJ7_fill_53178_5 rfl ?_
      refine zr_iloadn X dJ7_fill_53178_6 rfl ?_
      refine zr_icmp_ge X 20 dJ7_fill_53178_7 (by decide) ⟨by omega, by omega⟩ ⟨by omega, by omega⟩ (fun t_7 => ?_) (fun f_7 => ?_)
      · refine zr_vret X hr dJ7_fill_53178_20 ?_
        rw [hI_5.2, show i = n by omega]
      · refine zr_aloadn X dJ7_fill_53178_10 rfl ?_
        refine zr_iloadn X dJ7_fill_53178_11 rfl ?_
        refine zr_iloadn X dJ7_fill_53178_12 rfl ?_
        refine zr_iast X K (n := n) hi he ho hn (by omega) dJ7_fill_53178_13 ?_
        refine zr_iinc X dJ7_fill_53178_14 rfl (by decide) rfl ?_
        refine zr_goto X 5 dJ7_fill_53178_17 (by decide) ?_
        refine Wx.weak (lo' := [some (.ref (ad (g, k))), some (jI x), some (jI (i + 1)), some (jI ((n : Int)))]) ⟨rfl, rfl, rfl, rfl, trivial⟩ ?_
        exact ih_5 _ _ ⟨⟨by omega, by omega⟩, by rw [hI_5.2]; exact mfill_s hI_5.1.1⟩ (by omega)
  refine Wx.weak (lo' := [some (.ref (ad (g, k))), some (jI x), some (jI 0), some (jI ((n : Int)))]) ⟨rfl, rfl, rfl, rfl, trivial⟩ ?_
  exact loop_5 _ 0 σ ⟨⟨by omega, by omega⟩, mfill_0.symm⟩ (Nat.lt_succ_self _)

set_option maxHeartbeats 4000000 in
set_option maxRecDepth 100000 in
theorem c_X5_isActive (l : Launch) (D : va_G) (cs : Nat → ClassId) (ad : Ix → Nat) (hap : Apart idsF ad) {b : Nat} (hb : b < 2) {σ : Mem} {N0 : (Int → Bool) → Int} {s t B : Int} (h : pfI σ b N0 s t B) {v : Int} (hv : 0 ≤ v ∧ v < σ (0, 0) 0) : CI l D cs idsF ad yX5_isActive cX5_isActive 2 .boolean 0 [(.ref (ad (b + 6, 4))), (jI v)] σ (fun z τ => τ = σ ∧ ((z = 1 ∧ act σ b s t v) ∨ (z = 0 ∧ ¬ act σ b s t v))) := by
  refine CI.of RX5 hap idsF_nd (by decide) rfl (Nat.le_of_ble_eq_true rfl) ?_
  intro pg ev s0 mi av bl mt cd X K hr
  have hn := h.1.1.1
  have hx := pf_exc h hv
  have hg := pf_hgt h hv
  have he := pf_ends h
  refine zr_aloadn X dX5_isActive_0 rfl ?_
  refine zr_get X K (C := RX5) (T := TX5) (N := 7) (k := 2) (mB hb (by decide)) rfl rfl ti_5 (by decide) rfl tw_102 rfl dX5_isActive_1 ?_
  refine zr_iloadn X dX5_isActive_4 rfl ?_
  refine zr_iald X K (n := 24) (mB hb (by decide)) rfl (by decide) (by omega) dX5_isActive_5 ?_
  refine zr_if_le X 45 dX5_isActive_6 (by decide) ⟨by omega, by omega⟩ (fun t_6 => ?_) (fun f_6 => ?_)
  · refine zr_iconst X dX5_isActive_45 ?_
    refine zr_zret X hr dX5_isActive_46 (by omega) ?_
    refine ⟨rfl, ?_⟩
    unfold act
    rw [← he.1.1, ← he.1.2]
    exact Or.inr ⟨rfl, fun q => by omega⟩
  · refine zr_iloadn X dX5_isActive_9 rfl ?_
    refine zr_aloadn X dX5_isActive_10 rfl ?_
    refine zr_get X K (C := RX5) (T := TX5) (N := 7) (k := 6) (mB hb (by decide)) rfl rfl ti_5 (by decide) rfl tw_106 rfl dX5_isActive_11 ?_
    refine zr_icmp_eq X 45 dX5_isActive_14 (by decide) ⟨by omega, by omega⟩ ⟨by omega, by omega⟩ (fun t_14 => ?_) (fun f_14 => ?_)
    · refine zr_iconst X dX5_isActive_45 ?_
      refine zr_zret X hr dX5_isActive_46 (by omega) ?_
      refine ⟨rfl, ?_⟩
      unfold act
      rw [← he.1.1, ← he.1.2]
      exact Or.inr ⟨rfl, fun q => by omega⟩
    · refine zr_iloadn X dX5_isActive_17 rfl ?_
      refine zr_aloadn X dX5_isActive_18 rfl ?_
      refine zr_get X K (C := RX5) (T := TX5) (N := 7) (k := 5) (mB hb (by decide)) rfl rfl ti_5 (by decide) rfl tw_105 rfl dX5_isActive_19 ?_
      refine zr_icmp_ne X 41 dX5_isActive_22 (by decide) ⟨by omega, by omega⟩ ⟨by omega, by omega⟩ (fun t_22 => ?_) (fun f_22 => ?_)
      · refine zr_iconst X dX5_isActive_41 ?_
        refine zr_goto X 46 dX5_isActive_42 (by decide) ?_
        refine zr_zret X hr dX5_isActive_46 (by omega) ?_
        refine ⟨rfl, ?_⟩
        unfold act
        rw [← he.1.1, ← he.1.2]
        exact Or.inl ⟨rfl, by omega, by omega, by omega⟩
      · refine zr_aloadn X dX5_isActive_25 rfl ?_
        refine zr_get X K (C := RX5) (T := TX5) (N := 7) (k := 3) (mB hb (by decide)) rfl rfl ti_5 (by decide) rfl tw_103 rfl dX5_isActive_26 ?_
        refine zr_iloadn X dX5_isActive_29 rfl ?_
        refine zr_iald X K (n := 24) (mB hb (by decide)) rfl (by decide) (by omega) dX5_isActive_30 ?_
        refine zr_aloadn X dX5_isActive_31 rfl ?_
        refine zr_get X K (C := RX5) (T := TX5) (N := 7) (k := 0) (mB hb (by decide)) rfl rfl ti_5 (by decide) rfl tw_100 rfl dX5_isActive_32 ?_
        refine zr_getN X K (C := RX4) (T := TX4) (N := 6) (k := 0) mF_0_0 rfl rfl ti_4 (by decide) rfl tn_35 rfl dX5_isActive_35 ?_
        refine zr_icmp_ge X 45 dX5_isActive_38 (by decide) ⟨by omega, by omega⟩ ⟨by omega, by omega⟩ (fun t_38 => ?_) (fun f_38 => ?_)
        · refine zr_iconst X dX5_isActive_45 ?_
          refine zr_zret X hr dX5_isActive_46 (by omega) ?_
          refine ⟨rfl, ?_⟩
          unfold act
          rw [← he.1.1, ← he.1.2]
          exact Or.inr ⟨rfl, fun q => by omega⟩
        · refine zr_iconst X dX5_isActive_41 ?_
          refine zr_goto X 46 dX5_isActive_42 (by decide) ?_
          refine zr_zret X hr dX5_isActive_46 (by omega) ?_
          refine ⟨rfl, ?_⟩
          unfold act
          rw [← he.1.1, ← he.1.2]
          exact Or.inl ⟨rfl, by omega, by omega, by omega⟩

set_option maxHeartbeats 4000000 in
set_option maxRecDepth 100000 in
theorem c_X5_pushOut (l : Launch) (D : va_G) (cs : Nat → ClassId) (ad : Ix → Nat) (hap : Apart idsF ad) {b : Nat} (hb : b < 2) {σ : Mem} {N0 : (Int → Bool) → Int} {s t B : Int} (h : pfI σ b N0 s t B) {u : Int} (hu : 0 ≤ u ∧ u < σ (0, 0) 0) : CV l D cs idsF ad yX5_pushOut cX5_pushOut 6 1 [(.ref (ad (b + 6, 4))), (jI u)] σ (fun τ => poP σ τ b N0 s t B u) := by
  refine CV.of RX5 hap idsF_nd (by decide) rfl (Nat.le_of_ble_eq_true rfl) ?_
  intro pg ev s0 mi av bl mt cd X K hr
  have hn := h.1.1.1
  have hv24 : 0 ≤ u ∧ u < 24 := ⟨by omega, by omega⟩
  refine zr_iconst X dX5_pushOut_0 ?_
  refine zr_istoren X dX5_pushOut_1 (by decide) rfl ?_
  have loop_2 : ∀ (n_2 : Nat) (i : Int) (τ : Mem), ((0 ≤ i ∧ i ≤ τ (0, 4) u) ∧ poI σ τ b N0 s t B u i) → (τ (0, 4) u - i).toNat < n_2 → Wx pg l ev (rmm 1 0 0) s0 mi av bl mt cd D cs idsF ad (Rg idsF ad) s0.heap 6 (MQ bl (qV D cs idsF ad ((fun τ => poP σ τ b N0 s t B u))) av s0 0 0 (Rg idsF ad)) 0 0 τ 2 [some (.ref (ad (b + 6, 4))), some (jI u), some (jI i), none, none, none] [] := by
    intro n_2
    induction n_2 with
    | zero => exact fun i τ hinv hn => absurd hn (Nat.not_lt_zero _)
    | succ n_2 ih_2 =>
      intro i τ hI_2 hn_2
      have hi0 := hI_2.1
      have hP := hI_2.2.1
      have hN := (pf_net hP).1
      have hA := (pf_net hP).2.1
      have hF := (pf_net hP).2.2
      have hdg := hA.1 u hv24.1 hv24.2
      have hm := hN.2.1
      have hu2 : 0 ≤ u ∧ u < τ (0, 0) 0 := by rw [hI_2.2.2.1.of 0 0]; exact hu
      refine zr_iloadn X dX5_pushOut_2 rfl ?_
      refine zr_aloadn X dX5_pushOut_3 rfl ?_
      refine zr_get X K (C := RX5) (T := TX5) (N := 7) (k := 0) (mB hb (by decide)) rfl rfl ti_5 (by decide) rfl tw_100 rfl dX5_pushOut_4 ?_
      refine zr_getN X K (C := RX4) (T := TX4) (N := 6) (k := 4) mF_0_0 rfl rfl ti_4 (by decide) rfl tn_51 rfl dX5_pushOut_7 ?_
      refine zr_iloadn X dX5_pushOut_10 rfl ?_
      refine zr_iald X K (n := 24) mF_0_4 rfl (by decide) (by omega) dX5_pushOut_11 ?_
      refine zr_icmp_ge X 116 dX5_pushOut_12 (by decide) ⟨by omega, by omega⟩ ⟨by omega, by omega⟩ (fun t_12 => ?_) (fun f_12 => ?_)
      · refine zr_vret X hr dX5_pushOut_116 ?_
        exact poI_end hI_2.2 (by omega)
      · refine zr_aloadn X dX5_pushOut_15 rfl ?_
        refine zr_get X K (C := RX5) (T := TX5) (N := 7) (k := 0) (mB hb (by decide)) rfl rfl ti_5 (by decide) rfl tw_100 rfl dX5_pushOut_16 ?_
        refine zr_getN X K (C := RX4) (T := TX4) (N := 6) (k := 5) mF_0_0 rfl rfl ti_4 (by decide) rfl tn_53 rfl dX5_pushOut_19 ?_
        refine zr_iloadn X dX5_pushOut_22 rfl ?_
        refine zr_aald X K (n := 24) (f := fun v => ad (1, v)) mF_0_5 rfl (by decide) (by omega) dX5_pushOut_23 ?_
        refine zr_iloadn X dX5_pushOut_24 rfl ?_
        refine zr_iald X K (n := 80) (mR1 (by omega)) rfl (by decide) (by omega) dX5_pushOut_25 ?_
        generalize h_a : τ (1, (u).toNat) i = a
        have hai := hA.2.2.1 u i hv24.1 hv24.2 hi0.1 (by omega)
        rw [h_a] at hai
        have ha := hai.1
        have hua := hai.2
        refine zr_istoren X dX5_pushOut_26 (by decide) rfl ?_
        refine zr_aloadn X dX5_pushOut_27 rfl ?_
        refine zr_get X K (C := RX5) (T := TX5) (N := 7) (k := 0) (mB hb (by decide)) rfl rfl ti_5 (by decide) rfl tw_100 rfl dX5_pushOut_28 ?_
        refine zr_iloadn X dX5_pushOut_31 rfl ?_
        refine zr_iloadn X dX5_pushOut_32 rfl ?_
        refine zr_callNI X K (q := (RX4, TX4, 6)) (st := []) (c_X4_otherEnd l D cs ad hap (σ := τ) hN (a := a) (v := u) ha hv24) ⟨tn_314, tw_316, tp_7, tw_2, tw_317⟩ dc_X4_otherEnd mF_0_0 rfl rfl rfl rfl rfl (Nat.le_of_ble_eq_true rfl) (by decide) dX5_pushOut_33 ?_
        intro z_ τ_ hp_
        obtain ⟨hτ_, hz_⟩ := hp_
        subst τ_
        subst z_
        generalize h_w : otF τ a u = w
        refine zr_istore X dX5_pushOut_36 (by decide) rfl ?_
        have hw0 : 0 ≤ w ∧ w < τ (0, 0) 0 := by rw [← h_w]; exact (ends hN ha hua).2.1
        have g1 := pf_hgt hP hu2
        have g2 := pf_hgt hP hw0
        have hx := pf_exc hP hu2
        have hB := (pf_ends hP).2.2.2.2
        have hr := rmF_rg hF (v := u) ha
        have hnt := hN.1
        refine zr_aloadn X dX5_pushOut_38 rfl ?_
        refine zr_get X K (C := RX5) (T := TX5) (N := 7) (k := 3) (mB hb (by decide)) rfl rfl ti_5 (by decide) rfl tw_103 rfl dX5_pushOut_39 ?_
        refine zr_iloadn X dX5_pushOut_42 rfl ?_
        refine zr_iald X K (n := 24) (mB hb (by decide)) rfl (by decide) (by omega) dX5_pushOut_43 ?_
        refine zr_aloadn X dX5_pushOut_44 rfl ?_
        refine zr_get X K (C := RX5) (T := TX5) (N := 7) (k := 3) (mB hb (by decide)) rfl rfl ti_5 (by decide) rfl tw_103 rfl dX5_pushOut_45 ?_
        refine zr_iload X dX5_pushOut_48 rfl ?_
        refine zr_iald X K (n := 24) (mB hb (by decide)) rfl (by decide) (by omega) dX5_pushOut_50 ?_
        refine zr_iconst X dX5_pushOut_51 ?_
        refine zr_iadd X dX5_pushOut_52 ?_
        refine zr_icmp_ne X 110 dX5_pushOut_53 (by decide) ⟨by omega, by omega⟩ ⟨by omega, by omega⟩ (fun t_53 => ?_) (fun f_53 => ?_)
        · refine zr_iinc X dX5_pushOut_110 rfl (by decide) rfl ?_
          refine zr_goto X 2 dX5_pushOut_113 (by decide) ?_
          refine Wx.weak (lo' := [some (.ref (ad (b + 6, 4))), some (jI u), some (jI (i + 1)), none, none, none]) ⟨rfl, rfl, rfl, trivial⟩ ?_
          exact ih_2 _ _ ⟨⟨by omega, by omega⟩, poI_skip hI_2.2 (by rw [h_a, h_w]; exact t_53)⟩ (by omega)
        · refine zr_aloadn X dX5_pushOut_56 rfl ?_
          refine zr_get X K (C := RX5) (T := TX5) (N := 7) (k := 2) (mB hb (by decide)) rfl rfl ti_5 (by decide) rfl tw_102 rfl dX5_pushOut_57 ?_
          refine zr_iloadn X dX5_pushOut_60 rfl ?_
          refine zr_iald X K (n := 24) (mB hb (by decide)) rfl (by decide) (by omega) dX5_pushOut_61 ?_
          refine zr_aloadn X dX5_pushOut_62 rfl ?_
          refine zr_get X K (C := RX5) (T := TX5) (N := 7) (k := 1) (mB hb (by decide)) rfl rfl ti_5 (by decide) rfl tw_101 rfl dX5_pushOut_63 ?_
          refine zr_iloadn X dX5_pushOut_66 rfl ?_
          refine zr_iloadn X dX5_pushOut_67 rfl ?_
          refine zr_callNI X K (q := (RX1, TX1, 3)) (st := [(jI (τ (b + 6, 5) u))]) (c_X1_room l D cs ad hap hb (σ := τ) hN (a := a) (v := u) ha hv24) ⟨tn_318, tw_320, tp_8, tw_4, tw_321⟩ dc_X1_room (mB hb (by decide)) rfl rfl rfl rfl rfl (Nat.le_of_ble_eq_true rfl) (by decide) dX5_pushOut_68 ?_
          intro z_ τ_ hp_
          obtain ⟨hτ_, hz_⟩ := hp_
          subst τ_
          subst z_
          refine zr_min X tw_335 tw_336 tw_15 tw_337 ⟨Nat.le_of_ble_eq_true rfl, Nat.le_of_ble_eq_true rfl, Nat.le_of_ble_eq_true rfl, Nat.le_of_ble_eq_true rfl⟩ ⟨by omega, by omega⟩ ⟨by omega, by omega⟩ dX5_pushOut_71 (fun x h_x => ?_)
          refine zr_istore X dX5_pushOut_74 (by decide) rfl ?_
          refine zr_aloadn X dX5_pushOut_76 rfl ?_
          refine zr_get X K (C := RX5) (T := TX5) (N := 7) (k := 1) (mB hb (by decide)) rfl rfl ti_5 (by decide) rfl tw_101 rfl dX5_pushOut_77 ?_
          refine zr_iloadn X dX5_pushOut_80 rfl ?_
          refine zr_iloadn X dX5_pushOut_81 rfl ?_
          refine zr_iload X dX5_pushOut_82 rfl ?_
          refine zr_callNV X K (q := (RX1, TX1, 3)) (st := []) (c_X1_send l D cs ad hap hb (σ := τ) hN (a := a) (v := u) (x := x) ha hv24) ⟨tn_338, tw_340, tp_12, tw_4, tw_341⟩ dc_X1_send (mB hb (by decide)) rfl rfl rfl rfl rfl (Nat.le_of_ble_eq_true rfl) (by decide) dX5_pushOut_84 ?_
          intro τ1 hτ1
          refine zr_aloadn X dX5_pushOut_87 rfl ?_
          refine zr_get X K (C := RX5) (T := TX5) (N := 7) (k := 2) (mB hb (by decide)) rfl rfl ti_5 (by decide) rfl tw_102 rfl dX5_pushOut_88 ?_
          refine zr_iloadn X dX5_pushOut_91 rfl ?_
          refine zr_dup2 X dX5_pushOut_92 rfl rfl ?_
          refine zr_iald X K (n := 24) (mB hb (by decide)) rfl (by decide) (by omega) dX5_pushOut_93 ?_
          refine zr_iload X dX5_pushOut_94 rfl ?_
          refine zr_isub X dX5_pushOut_96 ?_
          refine zr_iast X K (n := 24) (mB hb (by decide)) (fun _ => rfl) rfl (by decide) (by omega) dX5_pushOut_97 ?_
          generalize hm_σ1 : mset τ1 (b + 6, 5) u ((τ1 (b + 6, 5) u) - x) = σ1
          refine zr_aloadn X dX5_pushOut_98 rfl ?_
          refine zr_get X K (C := RX5) (T := TX5) (N := 7) (k := 2) (mB hb (by decide)) rfl rfl ti_5 (by decide) rfl tw_102 rfl dX5_pushOut_99 ?_
          refine zr_iload X dX5_pushOut_102 rfl ?_
          refine zr_dup2 X dX5_pushOut_104 rfl rfl ?_
          refine zr_iald X K (n := 24) (mB hb (by decide)) rfl (by decide) (by omega) dX5_pushOut_105 ?_
          refine zr_iload X dX5_pushOut_106 rfl ?_
          refine zr_iadd X dX5_pushOut_108 ?_
          refine zr_iast X K (n := 24) (mB hb (by decide)) (fun _ => rfl) rfl (by decide) (by omega) dX5_pushOut_109 ?_
          generalize hm_σ2 : mset σ1 (b + 6, 5) w ((σ1 (b + 6, 5) w) + x) = σ2
          refine zr_iinc X dX5_pushOut_110 rfl (by decide) rfl ?_
          refine zr_goto X 2 dX5_pushOut_113 (by decide) ?_
          refine Wx.weak (lo' := [some (.ref (ad (b + 6, 4))), some (jI u), some (jI (i + 1)), none, none, none]) ⟨rfl, rfl, rfl, trivial⟩ ?_
          have hps := psP_of hτ1 hm_σ1 hm_σ2 h_w (by rw [← h_w]; exact (ends hN ha hua).2.2) ha.2
          rw [← h_a] at hps
          have e4 : σ2 (0, 4) = τ (0, 4) := hps.1.of 0 4
          exact ih_2 _ _ ⟨⟨by omega, by rw [e4]; omega⟩, poI_push hI_2.2 hv24 ⟨hi0.1, by omega⟩ (by rw [h_a, h_w]; exact f_53) (by rw [h_a]; exact h_x) hps⟩ (by rw [e4]; omega)
  refine Wx.weak (lo' := [some (.ref (ad (b + 6, 4))), some (jI u), some (jI 0), none, none, none]) ⟨rfl, rfl, rfl, trivial⟩ ?_
  exact loop_2 _ 0 σ ⟨⟨by omega, (h.1.2.1.1 u hv24.1 hv24.2).1⟩, poI_0 h⟩ (Nat.lt_succ_self _)

set_option maxHeartbeats 4000000 in
set_option maxRecDepth 100000 in
theorem c_X5_lift (l : Launch) (D : va_G) (cs : Nat → ClassId) (ad : Ix → Nat) (hap : Apart idsF ad) {b : Nat} (hb : b < 2) {σ : Mem} {N0 : (Int → Bool) → Int} {s t B : Int} (h : pfI σ b N0 s t B) {u : Int} (hu : 0 ≤ u ∧ u < σ (0, 0) 0) (hut : u ≠ t) (hus : u = s → σ (b + 6, 6) u < σ (0, 0) 0) (hp : 0 < σ (b + 6, 5) u → ∀ a, 0 ≤ a → a < σ (0, 1) 0 → (σ (0, 2) a = u ∨ σ (0, 3) a = u) → 0 < rmF σ b a u → σ (b + 6, 6) u ≤ σ (b + 6, 6) (otF σ a u)) : CV l D cs idsF ad yX5_lift cX5_lift 5 1 [(.ref (ad (b + 6, 4))), (jI u)] σ (fun τ => lfP σ τ b N0 s t B u) := by
  refine CV.of RX5 hap idsF_nd (by decide) rfl (Nat.le_of_ble_eq_true rfl) ?_
  intro pg ev s0 mi av bl mt cd X K hr
  have hN := (pf_net h).1
  have hA := (pf_net h).2.1
  have hF := (pf_net h).2.2
  have hn := h.1.1.1
  have hv24 : 0 ≤ u ∧ u < 24 := ⟨by omega, by omega⟩
  have hdg := hA.1 u hv24.1 hv24.2
  have hx := pf_exc h hu
  have hm := hN.2.1
  have hB := (pf_ends h).2.2.2.2
  have he := pf_ends h
  have hgu := pf_hgt h hu
  refine zr_aloadn X dX5_lift_0 rfl ?_
  refine zr_get X K (C := RX5) (T := TX5) (N := 7) (k := 2) (mB hb (by decide)) rfl rfl ti_5 (by decide) rfl tw_102 rfl dX5_lift_1 ?_
  refine zr_iloadn X dX5_lift_4 rfl ?_
  refine zr_iald X K (n := 24) (mB hb (by decide)) rfl (by decide) (by omega) dX5_lift_5 ?_
  refine zr_if_ne X 10 dX5_lift_6 (by decide) ⟨by omega, by omega⟩ (fun t_6 => ?_) (fun f_6 => ?_)
  · refine zr_bipush X dX5_lift_10 rfl ?_
    refine zr_istoren X dX5_lift_12 (by decide) rfl ?_
    refine zr_iconst X dX5_lift_13 ?_
    refine zr_istoren X dX5_lift_14 (by decide) rfl ?_
    have loop_15 : ∀ (n_15 : Nat) (y : Int) (i : Int), ((0 ≤ i ∧ i ≤ σ (0, 4) u) ∧ lfI σ b u i y) → (σ (0, 4) u - i).toNat < n_15 → Wx pg l ev (rmm 1 0 0) s0 mi av bl mt cd D cs idsF ad (Rg idsF ad) s0.heap 5 (MQ bl (qV D cs idsF ad ((fun τ => lfP σ τ b N0 s t B u))) av s0 0 0 (Rg idsF ad)) 0 0 σ 15 [some (.ref (ad (b + 6, 4))), some (jI u), some (jI y), some (jI i), none] [] := by
      intro n_15
      induction n_15 with
      | zero => exact fun y i hinv hn => absurd hn (Nat.not_lt_zero _)
      | succ n_15 ih_15 =>
        intro y i hI_15 hn_15
        have hi0 := hI_15.1
        have hy0 := hI_15.2.1
        have hy1 := hI_15.2.2.1
        refine zr_iloadn X dX5_lift_15 rfl ?_
        refine zr_aloadn X dX5_lift_16 rfl ?_
        refine zr_get X K (C := RX5) (T := TX5) (N := 7) (k := 0) (mB hb (by decide)) rfl rfl ti_5 (by decide) rfl tw_100 rfl dX5_lift_17 ?_
        refine zr_getN X K (C := RX4) (T := TX4) (N := 6) (k := 4) mF_0_0 rfl rfl ti_4 (by decide) rfl tn_51 rfl dX5_lift_20 ?_
        refine zr_iloadn X dX5_lift_23 rfl ?_
        refine zr_iald X K (n := 24) mF_0_4 rfl (by decide) (by omega) dX5_lift_24 ?_
        refine zr_icmp_ge X 80 dX5_lift_25 (by decide) ⟨by omega, by omega⟩ ⟨by omega, by omega⟩ (fun t_25 => ?_) (fun f_25 => ?_)
        · refine zr_aloadn X dX5_lift_80 rfl ?_
          refine zr_get X K (C := RX5) (T := TX5) (N := 7) (k := 3) (mB hb (by decide)) rfl rfl ti_5 (by decide) rfl tw_103 rfl dX5_lift_81 ?_
          refine zr_iloadn X dX5_lift_84 rfl ?_
          refine zr_iloadn X dX5_lift_85 rfl ?_
          refine zr_aloadn X dX5_lift_86 rfl ?_
          refine zr_get X K (C := RX5) (T := TX5) (N := 7) (k := 5) (mB hb (by decide)) rfl rfl ti_5 (by decide) rfl tw_105 rfl dX5_lift_87 ?_
          refine zr_icmp_ne X 109 dX5_lift_90 (by decide) ⟨by omega, by omega⟩ ⟨by omega, by omega⟩ (fun t_90 => ?_) (fun f_90 => ?_)
          · refine zr_iloadn X dX5_lift_109 rfl ?_
            refine zr_iconst X dX5_lift_110 ?_
            refine zr_iadd X dX5_lift_111 ?_
            refine zr_iast X K (n := 24) (mB hb (by decide)) (fun _ => rfl) rfl (by decide) (by omega) dX5_lift_112 ?_
            refine zr_vret X hr dX5_lift_113 ?_
            exact lf_end h hu hut hus (by omega) (hp (by omega)) hI_15.2 (by omega) (by omega) ⟨fun e => by omega, fun e => by omega⟩
          · refine zr_iloadn X dX5_lift_93 rfl ?_
            refine zr_iconst X dX5_lift_94 ?_
            refine zr_iadd X dX5_lift_95 ?_
            refine zr_aloadn X dX5_lift_96 rfl ?_
            refine zr_get X K (C := RX5) (T := TX5) (N := 7) (k := 0) (mB hb (by decide)) rfl rfl ti_5 (by decide) rfl tw_100 rfl dX5_lift_97 ?_
            refine zr_getN X K (C := RX4) (T := TX4) (N := 6) (k := 0) mF_0_0 rfl rfl ti_4 (by decide) rfl tn_35 rfl dX5_lift_100 ?_
            refine zr_min X tw_335 tw_336 tw_15 tw_337 ⟨Nat.le_of_ble_eq_true rfl, Nat.le_of_ble_eq_true rfl, Nat.le_of_ble_eq_true rfl, Nat.le_of_ble_eq_true rfl⟩ ⟨by omega, by omega⟩ ⟨by omega, by omega⟩ dX5_lift_103 (fun zz h_zz => ?_)
            refine zr_goto X 112 dX5_lift_106 (by decide) ?_
            refine zr_iast X K (n := 24) (mB hb (by decide)) (fun _ => rfl) rfl (by decide) (by omega) dX5_lift_112 ?_
            refine zr_vret X hr dX5_lift_113 ?_
            exact lf_end h hu hut hus (by omega) (hp (by omega)) hI_15.2 (by omega) (by omega) ⟨fun e => by omega, fun e => by omega⟩
        · refine zr_aloadn X dX5_lift_28 rfl ?_
          refine zr_get X K (C := RX5) (T := TX5) (N := 7) (k := 0) (mB hb (by decide)) rfl rfl ti_5 (by decide) rfl tw_100 rfl dX5_lift_29 ?_
          refine zr_getN X K (C := RX4) (T := TX4) (N := 6) (k := 5) mF_0_0 rfl rfl ti_4 (by decide) rfl tn_53 rfl dX5_lift_32 ?_
          refine zr_iloadn X dX5_lift_35 rfl ?_
          refine zr_aald X K (n := 24) (f := fun v => ad (1, v)) mF_0_5 rfl (by decide) (by omega) dX5_lift_36 ?_
          refine zr_iloadn X dX5_lift_37 rfl ?_
          refine zr_iald X K (n := 80) (mR1 (by omega)) rfl (by decide) (by omega) dX5_lift_38 ?_
          generalize h_a : σ (1, (u).toNat) i = a
          have hai := hA.2.2.1 u i hv24.1 hv24.2 hi0.1 (by omega)
          rw [h_a] at hai
          have ha := hai.1
          have hua := hai.2
          have hr := rmF_rg hF (v := u) ha
          refine zr_istore X dX5_lift_39 (by decide) rfl ?_
          refine zr_aloadn X dX5_lift_41 rfl ?_
          refine zr_get X K (C := RX5) (T := TX5) (N := 7) (k := 1) (mB hb (by decide)) rfl rfl ti_5 (by decide) rfl tw_101 rfl dX5_lift_42 ?_
          refine zr_iload X dX5_lift_45 rfl ?_
          refine zr_iloadn X dX5_lift_47 rfl ?_
          refine zr_callNI X K (q := (RX1, TX1, 3)) (st := []) (c_X1_room l D cs ad hap hb (σ := σ) hN (a := a) (v := u) ha hv24) ⟨tn_318, tw_320, tp_8, tw_4, tw_321⟩ dc_X1_room (mB hb (by decide)) rfl rfl rfl rfl rfl (Nat.le_of_ble_eq_true rfl) (by decide) dX5_lift_48 ?_
          intro z_ τ_ hp_
          obtain ⟨hτ_, hz_⟩ := hp_
          subst τ_
          subst z_
          refine zr_if_le X 74 dX5_lift_51 (by decide) ⟨by omega, by omega⟩ (fun t_51 => ?_) (fun f_51 => ?_)
          · refine zr_iinc X dX5_lift_74 rfl (by decide) rfl ?_
            refine zr_goto X 15 dX5_lift_77 (by decide) ?_
            refine Wx.weak (lo' := [some (.ref (ad (b + 6, 4))), some (jI u), some (jI y), some (jI (i + 1)), none]) ⟨rfl, rfl, rfl, rfl, trivial⟩ ?_
            exact ih_15 _ _ ⟨⟨by omega, by omega⟩, lfI_skip hI_15.2 (by rw [h_a]; omega)⟩ (by omega)
          · refine zr_iloadn X dX5_lift_54 rfl ?_
            refine zr_aloadn X dX5_lift_55 rfl ?_
            refine zr_get X K (C := RX5) (T := TX5) (N := 7) (k := 3) (mB hb (by decide)) rfl rfl ti_5 (by decide) rfl tw_103 rfl dX5_lift_56 ?_
            refine zr_aloadn X dX5_lift_59 rfl ?_
            refine zr_get X K (C := RX5) (T := TX5) (N := 7) (k := 0) (mB hb (by decide)) rfl rfl ti_5 (by decide) rfl tw_100 rfl dX5_lift_60 ?_
            refine zr_iload X dX5_lift_63 rfl ?_
            refine zr_iloadn X dX5_lift_65 rfl ?_
            refine zr_callNI X K (q := (RX4, TX4, 6)) (st := [(.ref (ad (b + 6, 6))), (jI y)]) (c_X4_otherEnd l D cs ad hap (σ := σ) hN (a := a) (v := u) ha hv24) ⟨tn_314, tw_316, tp_7, tw_2, tw_317⟩ dc_X4_otherEnd mF_0_0 rfl rfl rfl rfl rfl (Nat.le_of_ble_eq_true rfl) (by decide) dX5_lift_66 ?_
            intro z_ τ_ hp_
            obtain ⟨hτ_, hz_⟩ := hp_
            subst τ_
            subst z_
            generalize h_w : otF σ a u = w
            have hw0 : 0 ≤ w ∧ w < σ (0, 0) 0 := by rw [← h_w]; exact (ends hN ha hua).2.1
            have g2 := pf_hgt h hw0
            refine zr_iald X K (n := 24) (mB hb (by decide)) rfl (by decide) (by omega) dX5_lift_69 ?_
            refine zr_min X tw_335 tw_336 tw_15 tw_337 ⟨Nat.le_of_ble_eq_true rfl, Nat.le_of_ble_eq_true rfl, Nat.le_of_ble_eq_true rfl, Nat.le_of_ble_eq_true rfl⟩ ⟨by omega, by omega⟩ ⟨by omega, by omega⟩ dX5_lift_70 (fun z h_z => ?_)
            refine zr_istoren X dX5_lift_73 (by decide) rfl ?_
            refine zr_iinc X dX5_lift_74 rfl (by decide) rfl ?_
            refine zr_goto X 15 dX5_lift_77 (by decide) ?_
            refine Wx.weak (lo' := [some (.ref (ad (b + 6, 4))), some (jI u), some (jI z), some (jI (i + 1)), none]) ⟨rfl, rfl, rfl, rfl, trivial⟩ ?_
            exact ih_15 _ _ ⟨⟨by omega, by omega⟩, lfI_min hI_15.2 hi0.1 (by rw [h_a]; omega) (by rw [h_a, h_w]; omega) (by rw [h_a, h_w]; exact h_z)⟩ (by omega)
    refine Wx.weak (lo' := [some (.ref (ad (b + 6, 4))), some (jI u), some (jI 48), some (jI 0), none]) ⟨rfl, rfl, rfl, rfl, trivial⟩ ?_
    exact loop_15 _ _ _ ⟨⟨by omega, by omega⟩, lfI_0⟩ (Nat.lt_succ_self _)
  · refine zr_vret X hr dX5_lift_9 ?_
    exact Or.inl ⟨by omega, rfl⟩

set_option maxHeartbeats 4000000 in
set_option maxRecDepth 100000 in
theorem c_X5_sweepOnce (l : Launch) (D : va_G) (cs : Nat → ClassId) (ad : Ix → Nat) (hap : Apart idsF ad) {b : Nat} (hb : b < 2) {σ : Mem} {N0 : (Int → Bool) → Int} {s t B : Int} (h : pfI σ b N0 s t B) {f : Int} (hf : ∀ v, 0 ≤ v → v < σ (0, 0) 0 → act σ b s t v → σ (b + 6, 6) v ≤ f) : CI l D cs idsF ad yX5_sweepOnce cX5_sweepOnce 3 .boolean 2 [(.ref (ad (b + 6, 4)))] σ (fun z τ => swP σ τ b N0 s t B f z) := by
  refine CI.of RX5 hap idsF_nd (by decide) rfl (Nat.le_of_ble_eq_true rfl) ?_
  intro pg ev s0 mi av bl mt cd X K hr
  have hn := h.1.1.1
  refine zr_iconst X dX5_sweepOnce_0 ?_
  refine zr_istoren X dX5_sweepOnce_1 (by decide) rfl ?_
  refine zr_iconst X dX5_sweepOnce_2 ?_
  refine zr_istoren X dX5_sweepOnce_3 (by decide) rfl ?_
  have loop_4 : ∀ (n_4 : Nat) (y : Int) (k : Int) (τ : Mem), ((0 ≤ k ∧ k ≤ τ (0, 0) 0) ∧ swI σ τ b N0 s t B f k y) → (τ (0, 0) 0 - k).toNat < n_4 → Wx pg l ev (rmm 2 0 0) s0 mi av bl mt cd D cs idsF ad (Rg idsF ad) s0.heap 3 (MQ bl (qI D cs idsF ad ((fun z τ => swP σ τ b N0 s t B f z))) av s0 0 0 (Rg idsF ad)) 0 0 τ 4 [some (.ref (ad (b + 6, 4))), some (jI y), some (jI k)] [] := by
    intro n_4
    induction n_4 with
    | zero => exact fun y k τ hinv hn => absurd hn (Nat.not_lt_zero _)
    | succ n_4 ih_4 =>
      intro y k τ hI_4 hn_4
      have hk0 := hI_4.1
      have hP := hI_4.2.1
      have hn2 := (pf_net hP).1.1
      have hy := hI_4.2.2.2.1
      refine zr_iloadn X dX5_sweepOnce_4 rfl ?_
      refine zr_aloadn X dX5_sweepOnce_5 rfl ?_
      refine zr_get X K (C := RX5) (T := TX5) (N := 7) (k := 0) (mB hb (by decide)) rfl rfl ti_5 (by decide) rfl tw_100 rfl dX5_sweepOnce_6 ?_
      refine zr_getN X K (C := RX4) (T := TX4) (N := 6) (k := 0) mF_0_0 rfl rfl ti_4 (by decide) rfl tn_35 rfl dX5_sweepOnce_9 ?_
      refine zr_icmp_ge X 41 dX5_sweepOnce_12 (by decide) ⟨by omega, by omega⟩ ⟨by omega, by omega⟩ (fun t_12 => ?_) (fun f_12 => ?_)
      · refine zr_iloadn X dX5_sweepOnce_41 rfl ?_
        refine zr_zret X hr dX5_sweepOnce_42 hy ?_
        exact swI_end hI_4.2 (by omega)
      · refine zr_aloadn X dX5_sweepOnce_15 rfl ?_
        refine zr_iloadn X dX5_sweepOnce_16 rfl ?_
        refine zr_callVI X K (q := (RX5, TX5, 7)) (st := []) (c_X5_isActive l D cs ad hap hb (σ := τ) hP (v := k) ⟨hk0.1, by omega⟩) ⟨tw_327, tw_329, tp_10, tw_5, tw_330⟩ dc_X5_isActive (mB hb (by decide)) rfl rfl rfl rfl rfl (Nat.le_of_ble_eq_true rfl) (by decide) dX5_sweepOnce_17 ?_
        intro z τ_ hp_
        obtain ⟨hτ_, hz⟩ := hp_
        subst τ_
        refine zr_if_eq X 35 dX5_sweepOnce_20 (by decide) (by rcases hz with q | q <;> exact ⟨by omega, by omega⟩) (fun t_20 => ?_) (fun f_20 => ?_)
        · refine zr_iinc X dX5_sweepOnce_35 rfl (by decide) rfl ?_
          refine zr_goto X 4 dX5_sweepOnce_38 (by decide) ?_
          refine Wx.weak (lo' := [some (.ref (ad (b + 6, 4))), some (jI y), some (jI (k + 1))]) ⟨rfl, rfl, rfl, trivial⟩ ?_
          exact ih_4 _ _ _ ⟨⟨by omega, by omega⟩, swI_skip hI_4.2 (hz.elim (fun q => by omega) (fun q => q.2))⟩ (by omega)
        · have hac : act τ b s t k := by
            rcases hz with q | q
            · exact q.2
            · omega
          refine zr_iconst X dX5_sweepOnce_23 ?_
          refine zr_istoren X dX5_sweepOnce_24 (by decide) rfl ?_
          refine zr_aloadn X dX5_sweepOnce_25 rfl ?_
          refine zr_iloadn X dX5_sweepOnce_26 rfl ?_
          refine zr_callVV X K (q := (RX5, TX5, 7)) (st := []) (c_X5_pushOut l D cs ad hap hb (σ := τ) hP (u := k) ⟨hk0.1, by omega⟩) ⟨tw_331, tw_333, tp_11, tw_5, tw_334⟩ dc_X5_pushOut (mB hb (by decide)) rfl rfl rfl rfl rfl (Nat.le_of_ble_eq_true rfl) (by decide) dX5_sweepOnce_27 ?_
          intro τ1 hpo
          refine zr_aloadn X dX5_sweepOnce_30 rfl ?_
          refine zr_iloadn X dX5_sweepOnce_31 rfl ?_
          refine zr_callVV X K (q := (RX5, TX5, 7)) (st := []) (c_X5_lift l D cs ad hap hb (σ := τ1) hpo.1 (u := k) (by rw [hpo.2.1.of 0 0]; exact ⟨hk0.1, by omega⟩) hac.2.1 (fun e => by rw [hpo.2.1.own 6, hpo.2.1.of 0 0]; exact hac.2.2.resolve_left (fun q => q e)) hpo.2.2.2) ⟨tw_342, tw_344, tp_13, tw_5, tw_345⟩ dc_X5_lift (mB hb (by decide)) rfl rfl rfl rfl rfl (Nat.le_of_ble_eq_true rfl) (by decide) dX5_sweepOnce_32 ?_
          intro τ2 hlf
          refine zr_iinc X dX5_sweepOnce_35 rfl (by decide) rfl ?_
          refine zr_goto X 4 dX5_sweepOnce_38 (by decide) ?_
          refine Wx.weak (lo' := [some (.ref (ad (b + 6, 4))), some (jI 1), some (jI (k + 1))]) ⟨rfl, rfl, rfl, trivial⟩ ?_
          have e0 : τ2 (0, 0) = τ (0, 0) := by
            rcases hlf with ⟨-, q⟩ | ⟨-, -, z2, -, q⟩
            · rw [q]; exact hpo.2.1.of 0 0
            · rw [q]; exact ((Fr.set (b := b) (k := 6) (L := [6]) (by decide)).of 0 0).trans (hpo.2.1.of 0 0)
          exact ih_4 _ _ _ ⟨⟨by omega, by rw [e0]; omega⟩, swI_step hI_4.2 ⟨hk0.1, by omega⟩ hac hpo hlf⟩ (by rw [e0]; omega)
  refine Wx.weak (lo' := [some (.ref (ad (b + 6, 4))), some (jI 0), some (jI 0)]) ⟨rfl, rfl, rfl, trivial⟩ ?_
  exact loop_4 _ _ _ _ ⟨⟨by omega, by omega⟩, swI_0 h hf⟩ (Nat.lt_succ_self _)
end
section
/-! THE ROUTER: heights, and the route -/

set_option maxHeartbeats 4000000 in
set_option maxRecDepth 100000 in
theorem c_X5_findBehind (l : Launch) (D : va_G) (cs : Nat → ClassId) (ad : Ix → Nat) (hap : Apart idsF ad) {b : Nat} (hb : b < 2) {σ : Mem} (hF0 : FlOk σ b) {t c0 x u : Int} (h : bfW σ b t c0 x 0) (hu : σ (b + 6, 7) x = u) : CI l D cs idsF ad yX5_findBehind cX5_findBehind 8 .int 1 [(.ref (ad (b + 6, 4))), (jI u), (jI c0)] σ (fun z τ => Fr b [6, 7] σ τ ∧ bfI τ b t z (x + 1)) := by
  refine CI.of RX5 hap idsF_nd (by decide) rfl (Nat.le_of_ble_eq_true rfl) ?_
  intro pg ev s0 mi av bl mt cd X K hr
  have hN0 := h.1.1
  have hn := hN0.1
  have hu0 := (h.2.1.2.2.2.1 x h.2.2.2.1.1 h.2.2.2.1.2).1
  rw [hu] at hu0
  have hv24 : 0 ≤ u ∧ u < 24 := ⟨by omega, by omega⟩
  refine zr_iloadn X dX5_findBehind_0 rfl ?_
  refine zr_istoren X dX5_findBehind_1 (by decide) rfl ?_
  refine zr_iconst X dX5_findBehind_2 ?_
  refine zr_istore X dX5_findBehind_3 (by decide) rfl ?_
  have loop_5 : ∀ (n_5 : Nat) (c : Int) (i : Int) (τ : Mem), ((0 ≤ i ∧ i ≤ τ (0, 4) u) ∧ Fr b [6, 7] σ τ ∧ bfW τ b t c x i ∧ τ (b + 6, 7) x = u) → (τ (0, 4) u - i).toNat < n_5 → Wx pg l ev (rmm 1 0 0) s0 mi av bl mt cd D cs idsF ad (Rg idsF ad) s0.heap 8 (MQ bl (qI D cs idsF ad ((fun z τ => Fr b [6, 7] σ τ ∧ bfI τ b t z (x + 1)))) av s0 0 0 (Rg idsF ad)) 0 0 τ 5 [some (.ref (ad (b + 6, 4))), some (jI u), some (jI c0), some (jI c), some (jI i), none, none, none] [] := by
    intro n_5
    induction n_5 with
    | zero => exact fun c i τ hinv hn => absurd hn (Nat.not_lt_zero _)
    | succ n_5 ih_5 =>
      intro c i τ hI_5 hn_5
      have hi0 := hI_5.1
      have hW := hI_5.2.2.1
      have hu3 := hI_5.2.2.2
      have hN := hW.1.1
      have hA := hW.1.2
      have hF := hI_5.2.1.fl (hN := hF0)
      have hdg := hA.1 u hv24.1 hv24.2
      have hm := hN.2.1
      have hn2 := hN.1
      have hu2 : 0 ≤ u ∧ u < τ (0, 0) 0 := by rw [hI_5.2.1.of 0 0]; exact hu0
      have hcn := bfW_cnt hW
      have hx4 := hW.2.2.2.1
      have hq := hW.2.1.2.2.2.1 x hx4.1 hx4.2
      rw [hu3] at hq
      refine zr_iload X dX5_findBehind_5 rfl ?_
      refine zr_aloadn X dX5_findBehind_7 rfl ?_
      refine zr_get X K (C := RX5) (T := TX5) (N := 7) (k := 0) (mB hb (by decide)) rfl rfl ti_5 (by decide) rfl tw_100 rfl dX5_findBehind_8 ?_
      refine zr_getN X K (C := RX4) (T := TX4) (N := 6) (k := 4) mF_0_0 rfl rfl ti_4 (by decide) rfl tn_51 rfl dX5_findBehind_11 ?_
      refine zr_iloadn X dX5_findBehind_14 rfl ?_
      refine zr_iald X K (n := 24) mF_0_4 rfl (by decide) (by omega) dX5_findBehind_15 ?_
      refine zr_icmp_ge X 126 dX5_findBehind_16 (by decide) ⟨by omega, by omega⟩ ⟨by omega, by omega⟩ (fun t_16 => ?_) (fun f_16 => ?_)
      · refine zr_iloadn X dX5_findBehind_126 rfl ?_
        refine zr_iret X hr dX5_findBehind_127 ?_
        exact ⟨hI_5.2.1, bfW_end hI_5.2.2.1 (by rw [hu3]; omega)⟩
      · refine zr_aloadn X dX5_findBehind_19 rfl ?_
        refine zr_get X K (C := RX5) (T := TX5) (N := 7) (k := 0) (mB hb (by decide)) rfl rfl ti_5 (by decide) rfl tw_100 rfl dX5_findBehind_20 ?_
        refine zr_getN X K (C := RX4) (T := TX4) (N := 6) (k := 5) mF_0_0 rfl rfl ti_4 (by decide) rfl tn_53 rfl dX5_findBehind_23 ?_
        refine zr_iloadn X dX5_findBehind_26 rfl ?_
        refine zr_aald X K (n := 24) (f := fun v => ad (1, v)) mF_0_5 rfl (by decide) (by omega) dX5_findBehind_27 ?_
        refine zr_iload X dX5_findBehind_28 rfl ?_
        refine zr_iald X K (n := 80) (mR1 (by omega)) rfl (by decide) (by omega) dX5_findBehind_30 ?_
        generalize h_a : τ (1, (u).toNat) i = a
        have hai := hA.2.2.1 u i hv24.1 hv24.2 hi0.1 (by omega)
        rw [h_a] at hai
        have ha := hai.1
        have hua := hai.2
        refine zr_istore X dX5_findBehind_31 (by decide) rfl ?_
        refine zr_aloadn X dX5_findBehind_33 rfl ?_
        refine zr_get X K (C := RX5) (T := TX5) (N := 7) (k := 0) (mB hb (by decide)) rfl rfl ti_5 (by decide) rfl tw_100 rfl dX5_findBehind_34 ?_
        refine zr_iload X dX5_findBehind_37 rfl ?_
        refine zr_iloadn X dX5_findBehind_39 rfl ?_
        refine zr_callNI X K (q := (RX4, TX4, 6)) (st := []) (c_X4_otherEnd l D cs ad hap (σ := τ) hN (a := a) (v := u) ha hv24) ⟨tn_314, tw_316, tp_7, tw_2, tw_317⟩ dc_X4_otherEnd mF_0_0 rfl rfl rfl rfl rfl (Nat.le_of_ble_eq_true rfl) (by decide) dX5_findBehind_40 ?_
        intro z_ τ_ hp_
        obtain ⟨hτ_, hz_⟩ := hp_
        subst τ_
        subst z_
        generalize h_w : otF τ a u = w
        refine zr_istore X dX5_findBehind_43 (by decide) rfl ?_
        have hw0 : 0 ≤ w ∧ w < τ (0, 0) 0 := by rw [← h_w]; exact (ends hN ha hua).2.1
        have hwh : 0 ≤ τ (b + 6, 6) w ∧ τ (b + 6, 6) w ≤ τ (0, 0) 0 := by
          rcases hW.2.1.2.2.2.2.1 w hw0.1 hw0.2 with q | ⟨q, j, j1, j2, j3⟩
          · omega
          · have := (hW.2.1.2.2.2.1 j j1 j2).2.1
            rw [j3] at this
            omega
        have hr := rmF_rg hF (v := w) ha
        refine zr_aloadn X dX5_findBehind_45 rfl ?_
        refine zr_get X K (C := RX5) (T := TX5) (N := 7) (k := 3) (mB hb (by decide)) rfl rfl ti_5 (by decide) rfl tw_103 rfl dX5_findBehind_46 ?_
        refine zr_iload X dX5_findBehind_49 rfl ?_
        refine zr_iald X K (n := 24) (mB hb (by decide)) rfl (by decide) (by omega) dX5_findBehind_51 ?_
        refine zr_aloadn X dX5_findBehind_52 rfl ?_
        refine zr_get X K (C := RX5) (T := TX5) (N := 7) (k := 0) (mB hb (by decide)) rfl rfl ti_5 (by decide) rfl tw_100 rfl dX5_findBehind_53 ?_
        refine zr_getN X K (C := RX4) (T := TX4) (N := 6) (k := 0) mF_0_0 rfl rfl ti_4 (by decide) rfl tn_35 rfl dX5_findBehind_56 ?_
        refine zr_icmp_ne X 66 dX5_findBehind_59 (by decide) ⟨by omega, by omega⟩ ⟨by omega, by omega⟩ (fun t_59 => ?_) (fun f_59 => ?_)
        · refine zr_iconst X dX5_findBehind_66 ?_
          refine zr_istore X dX5_findBehind_67 (by decide) rfl ?_
          refine zr_iload X dX5_findBehind_69 rfl ?_
          refine zr_if_eq X 120 dX5_findBehind_71 (by decide) ⟨by omega, by omega⟩ (fun t_71 => ?_) (fun f_71 => ?_)
          · refine zr_iinc X dX5_findBehind_120 rfl (by decide) rfl ?_
            refine zr_goto X 5 dX5_findBehind_123 (by decide) ?_
            refine Wx.weak (lo' := [some (.ref (ad (b + 6, 4))), some (jI u), some (jI c0), some (jI c), some (jI (i + 1)), none, none, none]) ⟨rfl, rfl, rfl, rfl, rfl, trivial⟩ ?_
            exact ih_5 _ _ _ ⟨⟨by omega, by omega⟩, hI_5.2.1, bfW_skip hI_5.2.2.1 ⟨hi0.1, by rw [hu3]; omega⟩ (by rw [hu3, h_a, h_w]; omega), hu3⟩ (by omega)
          · exact absurd f_71 (by decide)
        · refine zr_iconst X dX5_findBehind_62 ?_
          refine zr_goto X 67 dX5_findBehind_63 (by decide) ?_
          refine zr_istore X dX5_findBehind_67 (by decide) rfl ?_
          refine zr_iload X dX5_findBehind_69 rfl ?_
          refine zr_if_eq X 120 dX5_findBehind_71 (by decide) ⟨by omega, by omega⟩ (fun t_71 => ?_) (fun f_71 => ?_)
          · exact absurd t_71 (by decide)
          · refine zr_aloadn X dX5_findBehind_74 rfl ?_
            refine zr_get X K (C := RX5) (T := TX5) (N := 7) (k := 1) (mB hb (by decide)) rfl rfl ti_5 (by decide) rfl tw_101 rfl dX5_findBehind_75 ?_
            refine zr_iload X dX5_findBehind_78 rfl ?_
            refine zr_iload X dX5_findBehind_80 rfl ?_
            refine zr_callNI X K (q := (RX1, TX1, 3)) (st := []) (c_X1_room l D cs ad hap hb (σ := τ) hN (a := a) (v := w) ha ⟨by omega, by omega⟩) ⟨tn_318, tw_320, tp_8, tw_4, tw_321⟩ dc_X1_room (mB hb (by decide)) rfl rfl rfl rfl rfl (Nat.le_of_ble_eq_true rfl) (by decide) dX5_findBehind_82 ?_
            intro z_ τ_ hp_
            obtain ⟨hτ_, hz_⟩ := hp_
            subst τ_
            subst z_
            refine zr_if_le X 120 dX5_findBehind_85 (by decide) ⟨by omega, by omega⟩ (fun t_85 => ?_) (fun f_85 => ?_)
            · refine zr_iinc X dX5_findBehind_120 rfl (by decide) rfl ?_
              refine zr_goto X 5 dX5_findBehind_123 (by decide) ?_
              refine Wx.weak (lo' := [some (.ref (ad (b + 6, 4))), some (jI u), some (jI c0), some (jI c), some (jI (i + 1)), none, none, none]) ⟨rfl, rfl, rfl, rfl, rfl, trivial⟩ ?_
              exact ih_5 _ _ _ ⟨⟨by omega, by omega⟩, hI_5.2.1, bfW_skip hI_5.2.2.1 ⟨hi0.1, by rw [hu3]; omega⟩ (by rw [hu3, h_a, h_w]; omega), hu3⟩ (by omega)
            · refine zr_iloadn X dX5_findBehind_88 rfl ?_
              refine zr_bipush X dX5_findBehind_89 rfl ?_
              refine zr_icmp_ge X 120 dX5_findBehind_91 (by decide) ⟨by omega, by omega⟩ ⟨by omega, by omega⟩ (fun t_91 => ?_) (fun f_91 => ?_)
              · refine zr_iinc X dX5_findBehind_120 rfl (by decide) rfl ?_
                refine zr_goto X 5 dX5_findBehind_123 (by decide) ?_
                refine Wx.weak (lo' := [some (.ref (ad (b + 6, 4))), some (jI u), some (jI c0), some (jI c), some (jI (i + 1)), none, none, none]) ⟨rfl, rfl, rfl, rfl, rfl, trivial⟩ ?_
                exact ih_5 _ _ _ ⟨⟨by omega, by omega⟩, hI_5.2.1, bfW_skip hI_5.2.2.1 ⟨hi0.1, by rw [hu3]; omega⟩ (by rw [hu3, h_a, h_w]; omega), hu3⟩ (by omega)
              · have hcc := bfW_new hW hw0 (by omega)
                have hc1 := hW.2.1.2.2.1.1
                refine zr_aloadn X dX5_findBehind_94 rfl ?_
                refine zr_get X K (C := RX5) (T := TX5) (N := 7) (k := 3) (mB hb (by decide)) rfl rfl ti_5 (by decide) rfl tw_103 rfl dX5_findBehind_95 ?_
                refine zr_iload X dX5_findBehind_98 rfl ?_
                refine zr_aloadn X dX5_findBehind_100 rfl ?_
                refine zr_get X K (C := RX5) (T := TX5) (N := 7) (k := 3) (mB hb (by decide)) rfl rfl ti_5 (by decide) rfl tw_103 rfl dX5_findBehind_101 ?_
                refine zr_iloadn X dX5_findBehind_104 rfl ?_
                refine zr_iald X K (n := 24) (mB hb (by decide)) rfl (by decide) (by omega) dX5_findBehind_105 ?_
                refine zr_iconst X dX5_findBehind_106 ?_
                refine zr_iadd X dX5_findBehind_107 ?_
                refine zr_iast X K (n := 24) (mB hb (by decide)) (fun _ => rfl) rfl (by decide) (by omega) dX5_findBehind_108 ?_
                generalize hm_σ1 : mset τ (b + 6, 6) w ((τ (b + 6, 6) u) + 1) = σ1
                refine zr_aloadn X dX5_findBehind_109 rfl ?_
                refine zr_get X K (C := RX5) (T := TX5) (N := 7) (k := 4) (mB hb (by decide)) rfl rfl ti_5 (by decide) rfl tw_104 rfl dX5_findBehind_110 ?_
                refine zr_iloadn X dX5_findBehind_113 rfl ?_
                refine zr_iload X dX5_findBehind_114 rfl ?_
                refine zr_iast X K (n := 24) (mB hb (by decide)) (fun _ => rfl) rfl (by decide) (by omega) dX5_findBehind_116 ?_
                generalize hm_σ2 : mset σ1 (b + 6, 7) c w = σ2
                refine zr_iinc X dX5_findBehind_117 rfl (by decide) rfl ?_
                refine zr_iinc X dX5_findBehind_120 rfl (by decide) rfl ?_
                refine zr_goto X 5 dX5_findBehind_123 (by decide) ?_
                refine Wx.weak (lo' := [some (.ref (ad (b + 6, 4))), some (jI u), some (jI c0), some (jI (c + 1)), some (jI (i + 1)), none, none, none]) ⟨rfl, rfl, rfl, rfl, rfl, trivial⟩ ?_
                have k1 : Fr b [6, 7] τ σ1 := by rw [← hm_σ1]; exact Fr.set (by decide)
                have k2 : Fr b [7] σ1 σ2 := by rw [← hm_σ2]; exact Fr.set (by decide)
                have k3 : Fr b [6, 7] τ σ2 := k1.tr (k2.up (by decide))
                have e4 : σ2 (0, 4) = τ (0, 4) := k3.of 0 4
                have e7 : ∀ j, σ2 (b + 6, 7) j = if j = c then w else τ (b + 6, 7) j := fun j => by
                  rw [← hm_σ2, mset_at, ← hm_σ1, mset_id (by simp)]
                have e6 : ∀ v, σ2 (b + 6, 6) v = if v = w then τ (b + 6, 6) (τ (b + 6, 7) x) + 1 else τ (b + 6, 6) v := fun v => by
                  rw [k2.own 6, ← hm_σ1, mset_at, hu3]
                exact ih_5 _ _ _ ⟨⟨by omega, by rw [e4]; omega⟩, hI_5.2.1.tr k3, bfW_step hI_5.2.2.1 ⟨hi0.1, by rw [hu3]; omega⟩ (by rw [hu3, h_a, h_w]) (by omega) k3 e6 e7, by rw [e7, if_neg (by omega)]; exact hu3⟩ (by rw [e4]; omega)
  refine Wx.weak (lo' := [some (.ref (ad (b + 6, 4))), some (jI u), some (jI c0), some (jI c0), some (jI 0), none, none, none]) ⟨rfl, rfl, rfl, rfl, rfl, trivial⟩ ?_
  exact loop_5 _ _ _ _ ⟨⟨by omega, (h.1.2.1 u hv24.1 hv24.2).1⟩, Fr.rf, h, hu⟩ (Nat.lt_succ_self _)

set_option maxHeartbeats 4000000 in
set_option maxRecDepth 100000 in
theorem c_X5_setHeights (l : Launch) (D : va_G) (cs : Nat → ClassId) (ad : Ix → Nat) (hap : Apart idsF ad) {b : Nat} (hb : b < 2) {σ : Mem} (hN : NetOk σ) (hA : AdjOk σ) (hF : FlOk σ b) {t : Int} (ht : σ (b + 6, 12) 0 = t) (htn : 0 ≤ t ∧ t < σ (0, 0) 0) : CV l D cs idsF ad yX5_setHeights cX5_setHeights 3 2 [(.ref (ad (b + 6, 4)))] σ (fun τ => shP σ τ b t) := by
  refine CV.of RX5 hap idsF_nd (by decide) rfl (Nat.le_of_ble_eq_true rfl) ?_
  intro pg ev s0 mi av bl mt cd X K hr
  have hn := hN.1
  refine zr_aloadn X dX5_setHeights_0 rfl ?_
  refine zr_get X K (C := RX5) (T := TX5) (N := 7) (k := 3) (mB hb (by decide)) rfl rfl ti_5 (by decide) rfl tw_103 rfl dX5_setHeights_1 ?_
  refine zr_aloadn X dX5_setHeights_4 rfl ?_
  refine zr_get X K (C := RX5) (T := TX5) (N := 7) (k := 0) (mB hb (by decide)) rfl rfl ti_5 (by decide) rfl tw_100 rfl dX5_setHeights_5 ?_
  refine zr_getN X K (C := RX4) (T := TX4) (N := 6) (k := 0) mF_0_0 rfl rfl ti_4 (by decide) rfl tn_35 rfl dX5_setHeights_8 ?_
  refine zr_callSV X K (st := []) (c_J7_fill l D cs ad hap (σ := σ) (g := b + 6) (k := 6) (n := 24) (x := σ (0, 0) 0) (mB hb (by decide)) (fun _ => rfl) rfl (by decide)) ⟨tw_307, tw_308, tw_14, tw_309⟩ dc_J7_fill_53178 rfl rfl (Nat.le_of_ble_eq_true rfl) (by decide) dX5_setHeights_11 ?_
  intro τ1 hτ1
  have k1 : Fr b [6, 7] σ τ1 := by rw [hτ1]; exact Fr.fill (by decide)
  have ht1 : τ1 (b + 6, 12) 0 = t := by rw [k1.own 12]; exact ht
  refine zr_aloadn X dX5_setHeights_14 rfl ?_
  refine zr_get X K (C := RX5) (T := TX5) (N := 7) (k := 3) (mB hb (by decide)) rfl rfl ti_5 (by decide) rfl tw_103 rfl dX5_setHeights_15 ?_
  refine zr_aloadn X dX5_setHeights_18 rfl ?_
  refine zr_get X K (C := RX5) (T := TX5) (N := 7) (k := 6) (mB hb (by decide)) rfl rfl ti_5 (by decide) rfl tw_106 rfl dX5_setHeights_19 ?_
  refine zr_iconst X dX5_setHeights_22 ?_
  refine zr_iast X K (n := 24) (mB hb (by decide)) (fun _ => rfl) rfl (by decide) (by omega) dX5_setHeights_23 ?_
  generalize hm_σ1 : mset τ1 (b + 6, 6) (τ1 (b + 6, 12) 0) 0 = σ1
  have ht2 : σ1 (b + 6, 12) 0 = t := by rw [← hm_σ1, mset_id (by simp)]; exact ht1
  refine zr_aloadn X dX5_setHeights_24 rfl ?_
  refine zr_get X K (C := RX5) (T := TX5) (N := 7) (k := 4) (mB hb (by decide)) rfl rfl ti_5 (by decide) rfl tw_104 rfl dX5_setHeights_25 ?_
  refine zr_iconst X dX5_setHeights_28 ?_
  refine zr_aloadn X dX5_setHeights_29 rfl ?_
  refine zr_get X K (C := RX5) (T := TX5) (N := 7) (k := 6) (mB hb (by decide)) rfl rfl ti_5 (by decide) rfl tw_106 rfl dX5_setHeights_30 ?_
  refine zr_iast X K (n := 24) (mB hb (by decide)) (fun _ => rfl) rfl (by decide) (by omega) dX5_setHeights_33 ?_
  generalize hm_σ2 : mset σ1 (b + 6, 7) 0 (σ1 (b + 6, 12) 0) = σ2
  refine zr_iconst X dX5_setHeights_34 ?_
  refine zr_istoren X dX5_setHeights_35 (by decide) rfl ?_
  refine zr_iconst X dX5_setHeights_36 ?_
  refine zr_istoren X dX5_setHeights_37 (by decide) rfl ?_
  have loop_38 : ∀ (n_38 : Nat) (c : Int) (x : Int) (τ : Mem), (Fr b [6, 7] σ τ ∧ bfI τ b t c x) → (25 - x).toNat < n_38 → Wx pg l ev (rmm 2 0 0) s0 mi av bl mt cd D cs idsF ad (Rg idsF ad) s0.heap 3 (MQ bl (qV D cs idsF ad ((fun τ => shP σ τ b t))) av s0 0 0 (Rg idsF ad)) 0 0 τ 38 [some (.ref (ad (b + 6, 4))), some (jI c), some (jI x)] [] := by
    intro n_38
    induction n_38 with
    | zero => exact fun c x τ hinv hn => absurd hn (Nat.not_lt_zero _)
    | succ n_38 ih_38 =>
      intro c x τ hI_38 hn_38
      have hW := hI_38.2
      have hNt := hW.1.1
      have hnt := hNt.1
      have hx0 := hW.2.2.2.1
      have hcl := ctB_le (low τ b) (τ (0, 0) 0).toNat
      have hce := hW.2.1.2.2.1
      refine zr_iloadn X dX5_setHeights_38 rfl ?_
      refine zr_iloadn X dX5_setHeights_39 rfl ?_
      refine zr_icmp_ge X 72 dX5_setHeights_40 (by decide) ⟨by omega, by omega⟩ ⟨by omega, by omega⟩ (fun t_40 => ?_) (fun f_40 => ?_)
      · refine zr_vret X hr dX5_setHeights_72 ?_
        have he := bfI_end hI_38.2 (by omega)
        exact ⟨hI_38.1, he.1, he.2.1, he.2.2⟩
      · refine zr_iloadn X dX5_setHeights_43 rfl ?_
        refine zr_aloadn X dX5_setHeights_44 rfl ?_
        refine zr_get X K (C := RX5) (T := TX5) (N := 7) (k := 0) (mB hb (by decide)) rfl rfl ti_5 (by decide) rfl tw_100 rfl dX5_setHeights_45 ?_
        refine zr_getN X K (C := RX4) (T := TX4) (N := 6) (k := 0) mF_0_0 rfl rfl ti_4 (by decide) rfl tn_35 rfl dX5_setHeights_48 ?_
        refine zr_icmp_ge X 72 dX5_setHeights_51 (by decide) ⟨by omega, by omega⟩ ⟨by omega, by omega⟩ (fun t_51 => ?_) (fun f_51 => ?_)
        · refine zr_vret X hr dX5_setHeights_72 ?_
          have he := bfI_end hI_38.2 (by omega)
          exact ⟨hI_38.1, he.1, he.2.1, he.2.2⟩
        · refine zr_aloadn X dX5_setHeights_54 rfl ?_
          refine zr_aloadn X dX5_setHeights_55 rfl ?_
          refine zr_get X K (C := RX5) (T := TX5) (N := 7) (k := 4) (mB hb (by decide)) rfl rfl ti_5 (by decide) rfl tw_104 rfl dX5_setHeights_56 ?_
          refine zr_iloadn X dX5_setHeights_59 rfl ?_
          refine zr_iald X K (n := 24) (mB hb (by decide)) rfl (by decide) (by omega) dX5_setHeights_60 ?_
          have hq := hW.2.1.2.2.2.1 x hx0.1 (by omega)
          refine zr_iloadn X dX5_setHeights_61 rfl ?_
          refine zr_callVI X K (q := (RX5, TX5, 7)) (st := []) (c_X5_findBehind l D cs ad hap hb (σ := τ) (hI_38.1.fl (hN := hF)) (bfW_0 hI_38.2 (by omega)) rfl) ⟨tw_310, tw_312, tp_6, tw_5, tw_313⟩ dc_X5_findBehind (mB hb (by decide)) rfl rfl rfl rfl rfl (Nat.le_of_ble_eq_true rfl) (by decide) dX5_setHeights_62 ?_
          intro c2 τ3 hp
          refine zr_istoren X dX5_setHeights_65 (by decide) rfl ?_
          refine zr_iinc X dX5_setHeights_66 rfl (by decide) rfl ?_
          refine zr_goto X 38 dX5_setHeights_69 (by decide) ?_
          refine Wx.weak (lo' := [some (.ref (ad (b + 6, 4))), some (jI c2), some (jI (x + 1))]) ⟨rfl, rfl, rfl, trivial⟩ ?_
          exact ih_38 _ _ _ ⟨hI_38.1.tr hp.1, hp.2⟩ (by omega)
  refine Wx.weak (lo' := [some (.ref (ad (b + 6, 4))), some (jI 1), some (jI 0)]) ⟨rfl, rfl, rfl, trivial⟩ ?_
  have k2 : Fr b [6, 7] σ σ2 := k1.tr (Fr.tr (τ := σ1) (by rw [← hm_σ1]; exact Fr.set (by decide)) (by rw [← hm_σ2]; exact Fr.set (by decide)))
  have b0 : bfI σ2 b t 1 0 := by
    refine bfI_0 (k2.net hN) (k2.adj hA) (by rw [k2.of 0 0]; exact htn) (fun v v1 v2 => ?_) ?_
    · rw [k2.of 0 0] at v2 ⊢
      rw [← hm_σ2, mset_id (by simp), ← hm_σ1, mset_at, ht1, hτ1, mfill_in v1 (by omega)]
    · rw [← hm_σ2, mset_same, ht2]
  exact loop_38 _ _ _ _ ⟨k2, b0⟩ (Nat.lt_succ_self _)

set_option maxHeartbeats 4000000 in
set_option maxRecDepth 100000 in
theorem c_X5_route (l : Launch) (D : va_G) (cs : Nat → ClassId) (ad : Ix → Nat) (hap : Apart idsF ad) {b : Nat} (hb : b < 2) {σ : Mem} (hN : NetOk σ) (hA : AdjOk σ) (hF : FlOk σ b) {s t B : Int} (hs : -1 ≤ s ∧ s < σ (0, 0) 0) (ht : -1 ≤ t ∧ t < σ (0, 0) 0) (hB : rg B ∧ B ≤ 100000000) : CI l D cs idsF ad yX5_route cX5_route 6 .int 3 [(.ref (ad (b + 6, 4))), (jI s), (jI t), (jI B)] σ (fun z τ => rtP σ τ b s t B z) := by
  refine CI.of RX5 hap idsF_nd (by decide) rfl (Nat.le_of_ble_eq_true rfl) ?_
  intro pg ev s0 mi av bl mt cd X K hr
  have hn := hN.1
  have hB1 := hB.1.1
  have hB2 := hB.1.2
  refine zr_iloadn X dX5_route_0 rfl ?_
  refine zr_if_lt X 17 dX5_route_1 (by decide) ⟨by omega, by omega⟩ (fun t_1 => ?_) (fun f_1 => ?_)
  · refine zr_iconst X dX5_route_17 ?_
    refine zr_iret X hr dX5_route_18 ?_
    exact rtP_no hF (by omega)
  · refine zr_iloadn X dX5_route_4 rfl ?_
    refine zr_if_lt X 17 dX5_route_5 (by decide) ⟨by omega, by omega⟩ (fun t_5 => ?_) (fun f_5 => ?_)
    · refine zr_iconst X dX5_route_17 ?_
      refine zr_iret X hr dX5_route_18 ?_
      exact rtP_no hF (by omega)
    · refine zr_iloadn X dX5_route_8 rfl ?_
      refine zr_iloadn X dX5_route_9 rfl ?_
      refine zr_icmp_eq X 17 dX5_route_10 (by decide) ⟨by omega, by omega⟩ ⟨by omega, by omega⟩ (fun t_10 => ?_) (fun f_10 => ?_)
      · refine zr_iconst X dX5_route_17 ?_
        refine zr_iret X hr dX5_route_18 ?_
        exact rtP_no hF (by omega)
      · refine zr_iloadn X dX5_route_13 rfl ?_
        refine zr_if_gt X 19 dX5_route_14 (by decide) ⟨by omega, by omega⟩ (fun t_14 => ?_) (fun f_14 => ?_)
        · refine zr_aloadn X dX5_route_19 rfl ?_
          refine zr_iloadn X dX5_route_20 rfl ?_
          refine zr_put X K (q := (b + 6, 11)) (C := RX5) (T := TX5) (ty0 := tyX5) (N := 7) (k := 5) (mB hb (by decide)) (fun _ => rfl) (by simp [mset]) rfl rfl ti_5 tyX5_ok nmX5 (by decide) rfl tw_105 rfl rfl rfl (Nat.le_of_ble_eq_true rfl) dX5_route_21 ?_
          generalize hm_σ1 : mset σ (b + 6, 11) 0 s = σ1
          refine zr_aloadn X dX5_route_24 rfl ?_
          refine zr_iloadn X dX5_route_25 rfl ?_
          refine zr_put X K (q := (b + 6, 12)) (C := RX5) (T := TX5) (ty0 := tyX5) (N := 7) (k := 6) (mB hb (by decide)) (fun _ => rfl) (by simp [mset]) rfl rfl ti_5 tyX5_ok nmX5 (by decide) rfl tw_106 rfl rfl rfl (Nat.le_of_ble_eq_true rfl) dX5_route_26 ?_
          generalize hm_σ2 : mset σ1 (b + 6, 12) 0 t = σ2
          have hk2 : Fr b [11, 12] σ σ2 := by
            refine Fr.tr (τ := σ1) ?_ ?_
            · rw [← hm_σ1]; exact Fr.set (by decide)
            · rw [← hm_σ2]; exact Fr.set (by decide)
          have e12 : σ2 (b + 6, 12) 0 = t := by rw [← hm_σ2, mset_same]
          have e11 : σ2 (b + 6, 11) 0 = s := by rw [← hm_σ2, mset_id (by simp), ← hm_σ1, mset_same]
          refine zr_aloadn X dX5_route_29 rfl ?_
          refine zr_callVV X K (q := (RX5, TX5, 7)) (st := []) (c_X5_setHeights l D cs ad hap hb (σ := σ2) (hk2.net hN) (hk2.adj hA) (hk2.fl (hN := hF)) (t := t) e12 (by rw [hk2.of 0 0]; omega)) ⟨tw_303, tw_305, tp_5, tw_5, tw_306⟩ dc_X5_setHeights (mB hb (by decide)) rfl rfl rfl rfl rfl (Nat.le_of_ble_eq_true rfl) (by decide) dX5_route_30 ?_
          intro τ1 hsh
          refine zr_aloadn X dX5_route_33 rfl ?_
          refine zr_get X K (C := RX5) (T := TX5) (N := 7) (k := 2) (mB hb (by decide)) rfl rfl ti_5 (by decide) rfl tw_102 rfl dX5_route_34 ?_
          refine zr_iconst X dX5_route_37 ?_
          refine zr_callSV X K (st := []) (c_J7_fill l D cs ad hap (σ := τ1) (g := b + 6) (k := 5) (n := 24) (x := 0) (mB hb (by decide)) (fun _ => rfl) rfl (by decide)) ⟨tw_307, tw_308, tw_14, tw_309⟩ dc_J7_fill_53178 rfl rfl (Nat.le_of_ble_eq_true rfl) (by decide) dX5_route_38 ?_
          intro τ2 hτ2
          refine zr_aloadn X dX5_route_41 rfl ?_
          refine zr_get X K (C := RX5) (T := TX5) (N := 7) (k := 2) (mB hb (by decide)) rfl rfl ti_5 (by decide) rfl tw_102 rfl dX5_route_42 ?_
          refine zr_iloadn X dX5_route_45 rfl ?_
          refine zr_iloadn X dX5_route_46 rfl ?_
          refine zr_iast X K (n := 24) (mB hb (by decide)) (fun _ => rfl) rfl (by decide) (by omega) dX5_route_47 ?_
          generalize hm_σ3 : mset τ2 (b + 6, 5) s B = σ3
          refine zr_iconst X dX5_route_48 ?_
          refine zr_istore X dX5_route_49 (by decide) rfl ?_
          refine zr_iconst X dX5_route_51 ?_
          refine zr_istore X dX5_route_52 (by decide) rfl ?_
          have loop_54 : ∀ (n_54 : Nat) (y : Int) (k : Int) (τ : Mem), (∃ f, rtI σ τ b (net σ b) s t B f k y) → (100000 - k).toNat < n_54 → Wx pg l ev (rmm 3 0 0) s0 mi av bl mt cd D cs idsF ad (Rg idsF ad) s0.heap 6 (MQ bl (qI D cs idsF ad ((fun z τ => rtP σ τ b s t B z))) av s0 0 0 (Rg idsF ad)) 0 0 τ 54 [some (.ref (ad (b + 6, 4))), some (jI s), some (jI t), some (jI B), some (jI y), some (jI k)] [] := by
            intro n_54
            induction n_54 with
            | zero => exact fun y k τ hinv hn => absurd hn (Nat.not_lt_zero _)
            | succ n_54 ih_54 =>
              intro y k τ hI_54 hn_54
              obtain ⟨f0, hf0⟩ := id hI_54
              have hk0 := hf0.2.2.2.2.2.2.1
              have hy := hf0.2.2.1
              have hP := hf0.1
              have hms := hf0.2.2.2.2.2.2.2
              have hHS := HS_rg hP
              have en : τ (0, 0) = σ (0, 0) := hf0.2.1.of 0 0
              refine zr_iload X dX5_route_54 rfl ?_
              refine zr_ldc (n := 1000000) X dX5_route_56 tw_322 rfl ?_
              refine zr_icmp_ge X 78 dX5_route_58 (by decide) ⟨by omega, by omega⟩ ⟨by omega, by omega⟩ (fun t_58 => ?_) (fun f_58 => ?_)
              · refine zr_aloadn X dX5_route_78 rfl ?_
                refine zr_get X K (C := RX5) (T := TX5) (N := 7) (k := 2) (mB hb (by decide)) rfl rfl ti_5 (by decide) rfl tw_102 rfl dX5_route_79 ?_
                refine zr_iloadn X dX5_route_82 rfl ?_
                refine zr_iald X K (n := 24) (mB hb (by decide)) rfl (by decide) (by omega) dX5_route_83 ?_
                refine zr_iret X hr dX5_route_84 ?_
                exact rtI_end hf0 (by omega) (by omega)
              · refine zr_iload X dX5_route_61 rfl ?_
                refine zr_if_eq X 78 dX5_route_63 (by decide) ⟨by omega, by omega⟩ (fun t_63 => ?_) (fun f_63 => ?_)
                · refine zr_aloadn X dX5_route_78 rfl ?_
                  refine zr_get X K (C := RX5) (T := TX5) (N := 7) (k := 2) (mB hb (by decide)) rfl rfl ti_5 (by decide) rfl tw_102 rfl dX5_route_79 ?_
                  refine zr_iloadn X dX5_route_82 rfl ?_
                  refine zr_iald X K (n := 24) (mB hb (by decide)) rfl (by decide) (by omega) dX5_route_83 ?_
                  refine zr_iret X hr dX5_route_84 ?_
                  exact rtI_end hf0 (by omega) (by omega)
                · refine zr_aloadn X dX5_route_66 rfl ?_
                  refine zr_callVI X K (q := (RX5, TX5, 7)) (st := []) (c_X5_sweepOnce l D cs ad hap hb (σ := τ) hI_54.choose_spec.1 (f := hI_54.choose) hI_54.choose_spec.2.2.2.2.1) ⟨tw_323, tw_325, tp_9, tw_5, tw_326⟩ dc_X5_sweepOnce (mB hb (by decide)) rfl rfl rfl rfl rfl (Nat.le_of_ble_eq_true rfl) (by decide) dX5_route_67 ?_
                  intro z τ3 hw
                  refine zr_istore X dX5_route_70 (by decide) rfl ?_
                  refine zr_iinc X dX5_route_72 rfl (by decide) rfl ?_
                  refine zr_goto X 54 dX5_route_75 (by decide) ?_
                  refine Wx.weak (lo' := [some (.ref (ad (b + 6, 4))), some (jI s), some (jI t), some (jI B), some (jI z), some (jI (k + 1))]) ⟨rfl, rfl, rfl, rfl, rfl, rfl, trivial⟩ ?_
                  exact ih_54 _ _ _ (rtI_step hI_54.choose_spec (by omega) hw) (by omega)
          refine Wx.weak (lo' := [some (.ref (ad (b + 6, 4))), some (jI s), some (jI t), some (jI B), some (jI 1), some (jI 0)]) ⟨rfl, rfl, rfl, rfl, rfl, rfl, trivial⟩ ?_
          have k3 : Fr b [5] τ1 τ2 := by rw [hτ2]; exact Fr.fill (by decide)
          have k4 : Fr b [5] τ2 σ3 := by rw [← hm_σ3]; exact Fr.set (by decide)
          have k5 : Fr b [5, 6, 7, 11, 12] σ σ3 := (hk2.up (by decide)).tr ((hsh.1.up (by decide)).tr ((k3.up (by decide)).tr (k4.up (by decide))))
          have k6 : Fr b [5] τ1 σ3 := k3.tr k4
          have hpf : pfI σ3 b (net σ b) s t B := by
            refine pfI_0 hN hA hF k5 ?_ ?_ ?_ (fun v v1 v2 => ?_) (by omega) (by omega) (by omega) (by omega) ?_ ?_
            · have := hsh.2.1
              unfold VL at this ⊢
              rw [k6.of 0 1, k6.of 0 2, k6.of 0 3, k6.own 2, k6.own 3, k6.own 6]
              exact this
            · rw [k6.own 6]; exact hsh.2.2.1
            · rw [k6.own 6, k6.of 0 0]; exact hsh.2.2.2
            · rw [← hm_σ3, mset_at]
              by_cases e : v = s
              · rw [if_pos e, if_pos e]
              · rw [if_neg e, if_neg e, hτ2, mfill_in v1 (by omega)]
            · rw [k6.own 11, hsh.1.own 11]; exact e11
            · rw [k6.own 12, hsh.1.own 12]; exact e12
          exact loop_54 _ _ _ _ ⟨47, rtI_0 hpf (k5.up (by decide))⟩ (Nat.lt_succ_self _)
        · refine zr_iconst X dX5_route_17 ?_
          refine zr_iret X hr dX5_route_18 ?_
          exact rtP_no hF (by omega)
end
section
/-! MAXIMUM FLOWS: the mathematics -/
def gnet (m : Nat) (tl hd f : Int → Int) (X : Int → Bool) : Int := sm (fun a => ind X (tl a) (f a) - ind X (hd a) (f a)) m
def gcp (m : Nat) (tl hd c : Int → Int) (X : Int → Bool) : Int := sm (fun a => if X (tl a) = true ∧ ¬ X (hd a) = true then c a else 0) m
/-- v is the maximum: a flow has this value, and a cut this capacity -/
def isMx (m : Nat) (tl hd c : Int → Int) (s t v : Int) : Prop := (∃ f : Int → Int, (∀ a : Int, 0 ≤ a → a < m → 0 ≤ f a ∧ f a ≤ c a) ∧ ∀ X, gnet m tl hd f X = ind X s v - ind X t v) ∧ ∃ X : Int → Bool, X s = true ∧ ¬ X t = true ∧ gcp m tl hd c X = v
theorem g_le {m : Nat} {tl hd c f : Int → Int} (hf : ∀ a : Int, 0 ≤ a → a < m → 0 ≤ f a ∧ f a ≤ c a) (X : Int → Bool) : gnet m tl hd f X ≤ gcp m tl hd c X := by
  refine sm_le fun a h1 h2 => ?_
  have h := hf a h1 h2
  show ind X (tl a) (f a) - ind X (hd a) (f a) ≤ if X (tl a) = true ∧ ¬ X (hd a) = true then c a else 0
  by_cases k1 : X (tl a) = true <;> by_cases k2 : X (hd a) = true
  · rw [ind_t k1, ind_t k2, if_neg (fun h => h.2 k2)]; omega
  · rw [ind_t k1, ind_f k2, if_pos ⟨k1, k2⟩]; omega
  · rw [ind_f k1, ind_t k2, if_neg (fun h => k1 h.1)]; omega
  · rw [ind_f k1, ind_f k2, if_neg (fun h => k1 h.1)]; omega
theorem isMx_le {m : Nat} {tl hd c : Int → Int} {s t v : Int} (h : isMx m tl hd c s t v) {X : Int → Bool} (hs : X s = true) (ht : ¬ X t = true) : v ≤ gcp m tl hd c X := by
  obtain ⟨⟨f, h1, h2⟩, -⟩ := h
  have := g_le (tl := tl) (hd := hd) h1 X
  rw [h2, ind_t hs, ind_f ht] at this
  omega
theorem isMx_one {m : Nat} {tl hd c : Int → Int} {s t v w : Int} (h : isMx m tl hd c s t v) (k : isMx m tl hd c s t w) : v = w := by
  obtain ⟨X, h1, h2, h3⟩ := h.2
  obtain ⟨Y, k1, k2, k3⟩ := k.2
  have a1 := isMx_le h k1 k2
  have a2 := isMx_le k h1 h2
  omega
theorem gcp_cong {m : Nat} {tl hd c tl' hd' c' : Int → Int} (h : ∀ a : Int, 0 ≤ a → a < m → tl' a = tl a ∧ hd' a = hd a ∧ c' a = c a) (X : Int → Bool) : gcp m tl' hd' c' X = gcp m tl hd c X := sm_cong fun a h1 h2 => by
  obtain ⟨e1, e2, e3⟩ := h a h1 h2
  show (if X (tl' a) = true ∧ ¬ X (hd' a) = true then c' a else 0) = _
  rw [e1, e2, e3]
theorem isMx_cong {m : Nat} {tl hd c tl' hd' c' : Int → Int} {s t v : Int} (h : ∀ a : Int, 0 ≤ a → a < m → tl' a = tl a ∧ hd' a = hd a ∧ c' a = c a) (k : isMx m tl hd c s t v) : isMx m tl' hd' c' s t v := by
  obtain ⟨⟨f, h1, h2⟩, X, h3, h4, h5⟩ := k
  refine ⟨⟨f, fun a a1 a2 => by rw [(h a a1 a2).2.2]; exact h1 a a1 a2, fun Y => ?_⟩, X, h3, h4, by rw [gcp_cong h]; exact h5⟩
  rw [← h2 Y]
  refine sm_cong fun a a1 a2 => ?_
  obtain ⟨e1, e2, -⟩ := h a a1 a2
  show ind Y (tl' a) (f a) - ind Y (hd' a) (f a) = _
  rw [e1, e2]
theorem gcp_nn {m : Nat} {tl hd c : Int → Int} (h : ∀ a : Int, 0 ≤ a → a < m → 0 ≤ c a) (X : Int → Bool) : 0 ≤ gcp m tl hd c X := sm_nn fun a h1 h2 => by
  have := h a h1 h2
  show 0 ≤ if X (tl a) = true ∧ ¬ X (hd a) = true then c a else 0
  split <;> omega
theorem isMx_nn {m : Nat} {tl hd c : Int → Int} {s t v : Int} (h : ∀ a : Int, 0 ≤ a → a < m → 0 ≤ c a) (k : isMx m tl hd c s t v) : 0 ≤ v := by
  obtain ⟨-, X, -, -, h5⟩ := k
  rw [← h5]
  exact gcp_nn h X
/-- the network that the memory holds, with the capacities of b -/
abbrev mxB (σ : Mem) (b : Nat) (s t v : Int) : Prop := isMx (σ (0, 1) 0).toNat (σ (0, 2)) (σ (0, 3)) (σ (b + 6, 2)) s t v
/-- the flow has the value F -/
def mfV (σ : Mem) (b : Nat) (F : Int) : Prop := ∀ X, net σ b X = ind X (σ (b + 6, 8) 0) F - ind X (σ (b + 6, 9) 0) F
def endsNo (σ : Mem) (b : Nat) : Prop := σ (b + 6, 8) 0 = -1 ∧ σ (b + 6, 9) 0 = -1
def endsYes (σ : Mem) (b : Nat) : Prop := (0 ≤ σ (b + 6, 8) 0 ∧ σ (b + 6, 8) 0 < σ (0, 0) 0) ∧ (0 ≤ σ (b + 6, 9) 0 ∧ σ (b + 6, 9) 0 < σ (0, 0) 0) ∧ σ (b + 6, 8) 0 ≠ σ (b + 6, 9) 0
/-- a cut of b that is closed: nothing more can flow -/
def shut (σ : Mem) (b : Nat) : Prop := ∃ X : Int → Bool, X (σ (b + 6, 8) 0) = true ∧ ¬ X (σ (b + 6, 9) 0) = true ∧ clo σ b X
def mfOk (σ : Mem) (b : Nat) : Prop := (NetOk σ ∧ AdjOk σ ∧ FlOk σ b) ∧ (endsNo σ b ∨ endsYes σ b) ∧ (∃ F, 0 ≤ F ∧ mfV σ b F) ∧ (endsNo σ b → ∀ a, 0 ≤ a → a < σ (0, 1) 0 → σ (b + 6, 3) a = 0) ∧ (σ (b + 6, 10) 0 = 0 ∨ σ (b + 6, 10) 0 = 1) ∧ (σ (b + 6, 10) 0 = 1 → endsYes σ b ∧ shut σ b) ∧ ∀ a, σ (0, 1) 0 ≤ a → a < 80 → σ (b + 6, 2) a = 0 ∧ σ (b + 6, 3) a = 0
theorem mx_of {σ : Mem} {b : Nat} {F : Int} (hN : NetOk σ) (hF : FlOk σ b) (hV : mfV σ b F) (hs : shut σ b) : mxB σ b (σ (b + 6, 8) 0) (σ (b + 6, 9) 0) F := by
  have hm := hN.2.1.1
  obtain ⟨X, h1, h2, h3⟩ := hs
  refine ⟨⟨σ (b + 6, 3), fun a a1 a2 => ⟨(hF a a1 (by omega)).1, (hF a a1 (by omega)).2.1⟩, hV⟩, X, h1, h2, ?_⟩
  have e1 := clo_net hN hF h3
  have e2 := hV X
  rw [ind_t h1, ind_f h2] at e2
  have e3 : cpo σ b X = gcp (σ (0, 1) 0).toNat (σ (0, 2)) (σ (0, 3)) (σ (b + 6, 2)) X := rfl
  omega
/-! what is moved away -/
def mvI (σ : Mem) (b : Nat) (F x y S : Int) : Prop := ∀ X, net σ b X = ind X (σ (b + 6, 8) 0) F - ind X (σ (b + 6, 9) 0) F - ind X x S + ind X y S
theorem rt_net {σ τ : Mem} {b : Nat} {s t B z : Int} (h : rtP σ τ b s t B z) (X : Int → Bool) : net τ b X = net σ b X + ind X s z - ind X t z := h.2.2.2.1 X
theorem rt_fr {σ τ : Mem} {b : Nat} {s t B z : Int} (h : rtP σ τ b s t B z) : Fr b [3, 5, 6, 7, 11, 12] σ τ := h.2.2.1
theorem mv_1 {σ τ : Mem} {b : Nat} {F x y S z : Int} (h : mvI σ b F x y S) (k : rtP σ τ b x y S z) : mvI τ b F x y (S - z) := fun X => by
  rw [rt_net k, h X, (rt_fr k).own 8, (rt_fr k).own 9, ind_sub, ind_sub]
  omega
/-- the three routes together -/
theorem mv_all {σ σ1 σ2 τ : Mem} {b : Nat} {F x y S z1 z2 z3 : Int} (hN : NetOk σ) (hE : endsYes σ b) (hF : 0 ≤ F) (hS : 0 < S) (hx : 0 ≤ x) (hy : 0 ≤ y) (hxy : x ≠ y) (h : mvI σ b F x y S) (k1 : rtP σ σ1 b x y S z1) (k2 : rtP σ1 σ2 b x (σ (b + 6, 8) 0) (S - z1) z2) (k3 : rtP σ2 τ b (σ (b + 6, 9) 0) y (S - z1) z3) : ∃ F', 0 ≤ F' ∧ mfV τ b F' := by
  have f1 := rt_fr k1
  have f2 := rt_fr k2
  have f3 := rt_fr k3
  have f12 := f1.tr f2
  have f13 := f12.tr f3
  have h1 := mv_1 h k1
  obtain ⟨hs, ht, hst⟩ := hE
  have n1 : NetOk σ1 := f1.net hN
  have n2 : NetOk σ2 := f12.net hN
  have n3 : NetOk τ := f13.net hN
  have e8 : σ1 (b + 6, 8) = σ (b + 6, 8) := f1.own 8
  have e9 : σ1 (b + 6, 9) = σ (b + 6, 9) := f1.own 9
  have hz1 := k1.1
  have hz1S := k1.2.2.2.2.2.1 hS
  unfold mvI at h1
  rw [e8, e9] at h1
  generalize hs' : σ (b + 6, 8) 0 = s at *
  generalize ht' : σ (b + 6, 9) 0 = t at *
  have hτ8 : τ (b + 6, 8) 0 = s := by rw [f13.own 8]; exact hs'
  have hτ9 : τ (b + 6, 9) 0 = t := by rw [f13.own 9]; exact ht'
  have hnet3 := fun X => rt_net k3 X
  have hnet2 := fun X => rt_net k2 X
  unfold mfV
  rw [hτ8, hτ9]
  by_cases hl : S - z1 = 0
  · have q2 := k2.2.2.2.2.1 (by omega)
    have q3 := k3.2.2.2.2.1 (by omega)
    refine ⟨F, hF, fun X => ?_⟩
    rw [hnet3, hnet2, h1 X, q2.1, q3.1, hl]
    simp only [ind_0]
    omega
  · have hlp : 0 < S - z1 := by omega
    obtain ⟨X, x1, x2, x3⟩ := (k1.2.2.2.2.2.2 hx hy hxy hS).resolve_left (by omega)
    have c1 := clo_net n1 k1.2.1 x3
    have p1 := co_nn n1 k1.2.1 X
    have hX := h1 X
    rw [ind_t x1, ind_f x2] at hX
    have xs : X s = true := by
      apply Classical.byContradiction
      intro q
      rw [ind_f q] at hX
      have := ind_nn (X := X) (v := t) hF
      omega
    rw [ind_t xs] at hX
    have xt : ¬ X t = true := by
      intro q
      rw [ind_t q] at hX
      omega
    rw [ind_f xt] at hX
    have hFl : S - z1 ≤ F := by omega
    -- the second route
    have r2 : ∀ Y, net σ2 b Y = ind Y s (F - (S - z1)) - ind Y t F + ind Y y (S - z1) := by
      by_cases hxs : x = s
      · have q2 := k2.2.2.2.2.1 (by omega)
        intro Y
        rw [hnet2, h1 Y, q2.1, hxs]
        simp only [ind_0, ind_sub]
        omega
      · have hz2 : z2 = S - z1 := by
          rcases k2.2.2.2.2.2.2 hx hs.1 hxs hlp with q | ⟨Y, y1, y2, y3⟩
          · exact q
          · have hz2p := k2.1
            have hz2l := k2.2.2.2.2.2.1 hlp
            have cX : clo σ2 b X := net_clo n2 k2.2.1 (by
              rw [hnet2, cpo_same (f2.of 0 1) (f2.of 0 2) (f2.of 0 3) (f2.own 2), ← c1, ind_t x1, ind_t xs]
              omega)
            have cXY := clo_net n2 k2.2.1 (clo_and cX y3)
            have pXY := co_nn n2 k2.2.1 (fun v => X v && Y v)
            rw [hnet2, h1] at cXY
            rw [ind_f (X := fun v => X v && Y v) (v := s) (by simp [y2]), ind_f (X := fun v => X v && Y v) (v := t) (by simp [xt]), ind_t (X := fun v => X v && Y v) (v := x) (by simp [x1, y1]), ind_f (X := fun v => X v && Y v) (v := y) (by simp [x2]), ind_t (X := fun v => X v && Y v) (v := x) (by simp [x1, y1]), ind_f (X := fun v => X v && Y v) (v := s) (by simp [y2])] at cXY
            omega
        intro Y
        rw [hnet2, h1 Y, hz2]
        simp only [ind_sub]
        omega
    refine ⟨F - (S - z1), by omega, fun Y => ?_⟩
    by_cases hty : t = y
    · have q3 := k3.2.2.2.2.1 (by omega)
      rw [hnet3, r2 Y, q3.1, ← hty]
      simp only [ind_0, ind_sub]
      omega
    · have hz3 : z3 = S - z1 := by
        rcases k3.2.2.2.2.2.2 ht.1 hy hty hlp with q | ⟨Z, w1, w2, w3⟩
        · exact q
        · have hz3p := k3.1
          have hz3l := k3.2.2.2.2.2.1 hlp
          have cX : clo τ b X := net_clo n3 k3.2.1 (by
            rw [hnet3, cpo_same (f3.of 0 1) (f3.of 0 2) (f3.of 0 3) (f3.own 2), cpo_same (f2.of 0 1) (f2.of 0 2) (f2.of 0 3) (f2.own 2), ← c1, r2, ind_t xs, ind_f xt, ind_f x2, ind_f xt, ind_f x2]
            omega)
          have cXZ := clo_net n3 k3.2.1 (clo_or cX w3)
          have pXZ := co_nn n3 k3.2.1 (fun v => X v || Z v)
          rw [hnet3, r2] at cXZ
          rw [ind_t (X := fun v => X v || Z v) (v := s) (by simp [xs]), ind_t (X := fun v => X v || Z v) (v := t) (by simp [w1]), ind_f (X := fun v => X v || Z v) (v := y) (by simp [x2, w2]), ind_t (X := fun v => X v || Z v) (v := t) (by simp [w1]), ind_f (X := fun v => X v || Z v) (v := y) (by simp [x2, w2])] at cXZ
          omega
      rw [hnet3, r2 Y, hz3]
      simp only [ind_sub]
      omega
/-- a capacity, and what flows over its arc, made less -/
theorem mv_start {σ τ : Mem} {b : Nat} {F a c : Int} (ha : 0 ≤ a ∧ a < σ (0, 1) 0) (hV : mfV σ b F) (e1 : τ (0, 1) = σ (0, 1)) (e2 : τ (0, 2) = σ (0, 2)) (e3 : τ (0, 3) = σ (0, 3)) (e8 : τ (b + 6, 8) = σ (b + 6, 8)) (e9 : τ (b + 6, 9) = σ (b + 6, 9)) (e4 : ∀ j, τ (b + 6, 3) j = if j = a then c else σ (b + 6, 3) j) : mvI τ b F (σ (0, 2) a) (σ (0, 3) a) (σ (b + 6, 3) a - c) := fun X => by
  rw [net_send (σ := σ) (τ := τ) (x := c - σ (b + 6, 3) a) ha e1 e2 e3 (fun j => by rw [e4 j]; split <;> omega), hV X, e8, e9]
  simp only [ind_sub]
  omega
theorem net_zero {σ : Mem} {b : Nat} (hm : 0 ≤ σ (0, 1) 0) (h : ∀ a, 0 ≤ a → a < σ (0, 1) 0 → σ (b + 6, 3) a = 0) (X : Int → Bool) : net σ b X = 0 := by
  unfold net
  rw [sm_cong (g := fun _ => 0) (fun a a1 a2 => by unfold nf; rw [h a a1 (by omega), ind_0, ind_0]; rfl), sm_zero]
/-- the value, read at the source -/
theorem net_at {σ : Mem} {b : Nat} {s : Int} : net σ b (fun v => decide (v = s)) = sm (fun a => (if σ (0, 2) a = s then σ (b + 6, 3) a else 0) - (if σ (0, 3) a = s then σ (b + 6, 3) a else 0)) (σ (0, 1) 0).toNat := by
  unfold net
  refine sm_cong fun a _ _ => ?_
  unfold nf ind
  simp only [decide_eq_true_eq]
end
section
/-! THE MAXIMUM FLOW -/
theorem mf_net {σ : Mem} {b : Nat} (h : mfOk σ b) : NetOk σ ∧ AdjOk σ ∧ FlOk σ b := h.1
theorem ends_rg {σ : Mem} {b : Nat} (hN : NetOk σ) (h : endsNo σ b ∨ endsYes σ b) : (-1 ≤ σ (b + 6, 8) 0 ∧ σ (b + 6, 8) 0 < 24) ∧ -1 ≤ σ (b + 6, 9) 0 ∧ σ (b + 6, 9) 0 < 24 := by
  have := hN.1
  unfold endsNo endsYes at h
  omega
/-- settled: a maximum flow stands, the rest as before -/
def stP (σ τ : Mem) (b : Nat) : Prop := mfOk τ b ∧ τ (b + 6, 10) 0 = 1 ∧ Fr b [3, 5, 6, 7, 10, 11, 12] σ τ
def cut8 (σ : Mem) (b : Nat) : Prop := ∃ X : Int → Bool, X (σ (b + 6, 8) 0) = true ∧ ¬ X (σ (b + 6, 9) 0) = true ∧ cpo σ b X < 100000000
theorem Fr.eno {b : Nat} {L : List Nat} {σ τ : Mem} (h : Fr b L σ τ) (h8 : 8 ∉ L := by decide) (h9 : 9 ∉ L := by decide) (k : endsNo σ b) : endsNo τ b := by
  unfold endsNo at k ⊢
  rw [h.own 8 h8, h.own 9 h9]; exact k
theorem Fr.eye {b : Nat} {L : List Nat} {σ τ : Mem} (h : Fr b L σ τ) (h8 : 8 ∉ L := by decide) (h9 : 9 ∉ L := by decide) (k : endsYes σ b) : endsYes τ b := by
  unfold endsYes at k ⊢
  rw [h.own 8 h8, h.own 9 h9, h.of 0 0]; exact k
theorem not_both {σ : Mem} {b : Nat} (h : endsNo σ b) (k : endsYes σ b) : False := by
  unfold endsNo at h
  unfold endsYes at k
  omega
/-- what a route between the ends makes of a flow -/
theorem st_of {σ σ1 τ : Mem} {b : Nat} {z : Int} (h : mfOk σ b) (hE : endsYes σ b) (hc : cut8 σ b) (k : rtP σ σ1 b (σ (b + 6, 8) 0) (σ (b + 6, 9) 0) 100000000 z) (e : mset σ1 (b + 6, 10) 0 1 = τ) : stP σ τ b := by
  have f1 := rt_fr k
  have f2 : Fr b [10] σ1 τ := by rw [← e]; exact Fr.set (by decide)
  have f3 : Fr b [3, 5, 6, 7, 10, 11, 12] σ τ := (f1.up (by decide)).tr (f2.up (by decide))
  obtain ⟨⟨hN, hA, hF⟩, -, ⟨F, hF0, hV⟩, -, -, -, hz⟩ := h
  have hNτ := f3.net hN
  have hF1 := k.2.1
  have hFτ : FlOk τ b := f2.fl (hN := hF1)
  have e10 : τ (b + 6, 10) 0 = 1 := by rw [← e, mset_same]
  have hV1 : ∀ X, net σ1 b X = ind X (σ (b + 6, 8) 0) (F + z) - ind X (σ (b + 6, 9) 0) (F + z) := fun X => by
    rw [rt_net k, hV X, ind_add, ind_add]; omega
  have hzn := k.1
  have hVτ : mfV τ b (F + z) := fun X => by
    rw [f3.own 8, f3.own 9, net_same (f2.of 0 1) (f2.of 0 2) (f2.of 0 3) (f2.own 3)]
    exact hV1 X
  have hsh : shut τ b := by
    unfold shut
    rw [f3.own 8, f3.own 9]
    rcases k.2.2.2.2.2.2 hE.1.1 hE.2.1.1 hE.2.2 (by decide) with q | ⟨X, x1, x2, x3⟩
    · exfalso
      obtain ⟨X, c1, c2, c3⟩ := hc
      have := net_le (f1.net hN) hF1 X
      rw [hV1 X, ind_t c1, ind_f c2, cpo_same (f1.of 0 1) (f1.of 0 2) (f1.of 0 3) (f1.own 2)] at this
      omega
    · exact ⟨X, x1, x2, clo_same (f2.of 0 1) (f2.of 0 2) (f2.of 0 3) (f2.own 2) (f2.own 3) x3⟩
  have hEτ := f3.eye (k := hE)
  have h3 : ∀ a, σ (0, 1) 0 ≤ a → a < 80 → τ (b + 6, 3) a = 0 := fun a a1 a2 => by rw [f3.2 a a1]; exact (hz a a1 a2).2
  refine ⟨⟨⟨hNτ, f3.adj hA, hFτ⟩, Or.inr hEτ, ⟨F + z, by omega, hVτ⟩, fun q => (not_both q hEτ).elim, Or.inr e10, fun _ => ⟨hEτ, hsh⟩, fun a a1 a2 => ?_⟩, e10, f3⟩
  rw [f3.of 0 1] at a1
  rw [f3.own 2]
  exact ⟨(hz a a1 a2).1, h3 a a1 a2⟩

theorem dc_X3_hasEnds : dcl yX3_hasEnds 0 := ⟨by decide, by decide, by decide +kernel⟩
theorem dc_X3_copy : dcl yX3_copy 1 := ⟨by decide, by decide, by decide +kernel⟩
theorem dc_X3_chooseEnds : dcl yX3_chooseEnds 2 := ⟨by decide, by decide, by decide +kernel⟩
theorem dc_X3_changeCapacity : dcl yX3_changeCapacity 2 := ⟨by decide, by decide, by decide +kernel⟩
theorem dc_X3_moveAway : dcl yX3_moveAway 3 := ⟨by decide, by decide, by decide +kernel⟩
theorem dc_X3_settle : dcl yX3_settle 0 := ⟨by decide, by decide, by decide +kernel⟩
theorem dc_X3_greatestValue : dcl yX3_greatestValue 0 := ⟨by decide, by decide, by decide +kernel⟩
theorem dc_X3_smallestMask : dcl yX3_smallestMask 0 := ⟨by decide, by decide, by decide +kernel⟩
theorem dc_X3_greatestMask : dcl yX3_greatestMask 0 := ⟨by decide, by decide, by decide +kernel⟩

set_option maxHeartbeats 4000000 in
set_option maxRecDepth 100000 in
theorem c_X3_hasEnds (l : Launch) (D : va_G) (cs : Nat → ClassId) (ad : Ix → Nat) (hap : Apart idsF ad) {b : Nat} (hb : b < 2) {σ : Mem} (hN : NetOk σ) (hE : endsNo σ b ∨ endsYes σ b) : CI l D cs idsF ad yX3_hasEnds cX3_hasEnds 1 .boolean 0 [(.ref (ad (b + 6, 0)))] σ (fun z τ => τ = σ ∧ ((z = 1 ∧ endsYes σ b) ∨ (z = 0 ∧ endsNo σ b))) := by
  refine CI.of RX3 hap idsF_nd (by decide) rfl (Nat.le_of_ble_eq_true rfl) ?_
  intro pg ev s0 mi av bl mt cd X K hr
  have hg := ends_rg hN hE
  refine zr_aloadn X dX3_hasEnds_0 rfl ?_
  refine zr_get X K (C := RX3) (T := TX3) (N := 6) (k := 3) (mB hb (by decide)) rfl rfl ti_3 (by decide) rfl tw_127 rfl dX3_hasEnds_1 ?_
  refine zr_iconst X dX3_hasEnds_4 ?_
  refine zr_icmp_eq X 20 dX3_hasEnds_5 (by decide) ⟨by omega, by omega⟩ ⟨by omega, by omega⟩ (fun t_5 => ?_) (fun f_5 => ?_)
  · refine zr_iconst X dX3_hasEnds_20 ?_
    refine zr_zret X hr dX3_hasEnds_21 (by omega) ?_
    refine ⟨rfl, ?_⟩
    unfold endsNo endsYes at hE ⊢
    omega
  · refine zr_aloadn X dX3_hasEnds_8 rfl ?_
    refine zr_get X K (C := RX3) (T := TX3) (N := 6) (k := 4) (mB hb (by decide)) rfl rfl ti_3 (by decide) rfl tw_129 rfl dX3_hasEnds_9 ?_
    refine zr_iconst X dX3_hasEnds_12 ?_
    refine zr_icmp_eq X 20 dX3_hasEnds_13 (by decide) ⟨by omega, by omega⟩ ⟨by omega, by omega⟩ (fun t_13 => ?_) (fun f_13 => ?_)
    · refine zr_iconst X dX3_hasEnds_20 ?_
      refine zr_zret X hr dX3_hasEnds_21 (by omega) ?_
      refine ⟨rfl, ?_⟩
      unfold endsNo endsYes at hE ⊢
      omega
    · refine zr_iconst X dX3_hasEnds_16 ?_
      refine zr_goto X 21 dX3_hasEnds_17 (by decide) ?_
      refine zr_zret X hr dX3_hasEnds_21 (by omega) ?_
      refine ⟨rfl, ?_⟩
      unfold endsNo endsYes at hE ⊢
      omega

set_option maxHeartbeats 4000000 in
set_option maxRecDepth 100000 in
theorem c_X3_moveAway (l : Launch) (D : va_G) (cs : Nat → ClassId) (ad : Ix → Nat) (hap : Apart idsF ad) {b : Nat} (hb : b < 2) {σ : Mem} (hN : NetOk σ) (hA : AdjOk σ) (hF : FlOk σ b) (hE : endsYes σ b) {F x y S : Int} (hF0 : 0 ≤ F) (hx : 0 ≤ x ∧ x < σ (0, 0) 0) (hy : 0 ≤ y ∧ y < σ (0, 0) 0) (hxy : x ≠ y) (hS : 0 < S ∧ S ≤ 100000000) (h : mvI σ b F x y S) : CV l D cs idsF ad yX3_moveAway cX3_moveAway 5 4 [(.ref (ad (b + 6, 0))), (jI x), (jI y), (jI S)] σ (fun τ => FlOk τ b ∧ Fr b [3, 5, 6, 7, 11, 12] σ τ ∧ ∃ F, 0 ≤ F ∧ mfV τ b F) := by
  refine CV.of RX3 hap idsF_nd (by decide) rfl (Nat.le_of_ble_eq_true rfl) ?_
  intro pg ev s0 mi av bl mt cd X K hr
  have hn := hN.1
  have hE2 := hE.1
  have hE3 := hE.2.1
  refine zr_iloadn X dX3_moveAway_0 rfl ?_
  refine zr_aloadn X dX3_moveAway_1 rfl ?_
  refine zr_get X K (C := RX3) (T := TX3) (N := 6) (k := 2) (mB hb (by decide)) rfl rfl ti_3 (by decide) rfl tw_125 rfl dX3_moveAway_2 ?_
  refine zr_iloadn X dX3_moveAway_5 rfl ?_
  refine zr_iloadn X dX3_moveAway_6 rfl ?_
  refine zr_iloadn X dX3_moveAway_7 rfl ?_
  refine zr_callNI X K (q := (RX5, TX5, 7)) (st := [(jI S)]) (c_X5_route l D cs ad hap hb (σ := σ) hN hA hF (s := x) (t := y) (B := S) (by omega) (by omega) ⟨⟨by omega, by omega⟩, by omega⟩) ⟨tn_299, tw_301, tp_4, tw_5, tw_302⟩ dc_X5_route (mB hb (by decide)) rfl rfl rfl rfl rfl (Nat.le_of_ble_eq_true rfl) (by decide) dX3_moveAway_8 ?_
  intro z1 τ1 hp1
  have f1 := rt_fr hp1
  have hz1 := hp1.1
  have hz2 := hp1.2.2.2.2.2.1 hS.1
  refine zr_isub X dX3_moveAway_11 ?_
  refine zr_istore X dX3_moveAway_12 (by decide) rfl ?_
  refine zr_aloadn X dX3_moveAway_14 rfl ?_
  refine zr_get X K (C := RX3) (T := TX3) (N := 6) (k := 2) (mB hb (by decide)) rfl rfl ti_3 (by decide) rfl tw_125 rfl dX3_moveAway_15 ?_
  refine zr_iloadn X dX3_moveAway_18 rfl ?_
  refine zr_aloadn X dX3_moveAway_19 rfl ?_
  refine zr_get X K (C := RX3) (T := TX3) (N := 6) (k := 3) (mB hb (by decide)) rfl rfl ti_3 (by decide) rfl tw_127 rfl dX3_moveAway_20 ?_
  refine zr_iload X dX3_moveAway_23 rfl ?_
  refine zr_callNI X K (q := (RX5, TX5, 7)) (st := []) (c_X5_route l D cs ad hap hb (σ := τ1) (f1.net hN) (f1.adj hA) hp1.2.1 (s := x) (t := τ1 (b + 6, 8) 0) (B := S - z1) (by rw [f1.of 0 0]; omega) (by rw [f1.own 8, f1.of 0 0]; omega) ⟨⟨by omega, by omega⟩, by omega⟩) ⟨tn_299, tw_301, tp_4, tw_5, tw_302⟩ dc_X5_route (mB hb (by decide)) rfl rfl rfl rfl rfl (Nat.le_of_ble_eq_true rfl) (by decide) dX3_moveAway_25 ?_
  intro z2 τ2 hp2
  have f2 := f1.tr (rt_fr hp2)
  refine zr_pop X dX3_moveAway_28 rfl ?_
  refine zr_aloadn X dX3_moveAway_29 rfl ?_
  refine zr_get X K (C := RX3) (T := TX3) (N := 6) (k := 2) (mB hb (by decide)) rfl rfl ti_3 (by decide) rfl tw_125 rfl dX3_moveAway_30 ?_
  refine zr_aloadn X dX3_moveAway_33 rfl ?_
  refine zr_get X K (C := RX3) (T := TX3) (N := 6) (k := 4) (mB hb (by decide)) rfl rfl ti_3 (by decide) rfl tw_129 rfl dX3_moveAway_34 ?_
  refine zr_iloadn X dX3_moveAway_37 rfl ?_
  refine zr_iload X dX3_moveAway_38 rfl ?_
  refine zr_callNI X K (q := (RX5, TX5, 7)) (st := []) (c_X5_route l D cs ad hap hb (σ := τ2) (f2.net hN) (f2.adj hA) hp2.2.1 (s := τ2 (b + 6, 9) 0) (t := y) (B := S - z1) (by rw [f2.own 9, f2.of 0 0]; omega) (by rw [f2.of 0 0]; omega) ⟨⟨by omega, by omega⟩, by omega⟩) ⟨tn_299, tw_301, tp_4, tw_5, tw_302⟩ dc_X5_route (mB hb (by decide)) rfl rfl rfl rfl rfl (Nat.le_of_ble_eq_true rfl) (by decide) dX3_moveAway_40 ?_
  intro z3 τ3 hp3
  have f3 := f2.tr (rt_fr hp3)
  refine zr_pop X dX3_moveAway_43 rfl ?_
  refine zr_vret X hr dX3_moveAway_44 ?_
  rw [f1.own 8] at hp2
  rw [f2.own 9] at hp3
  exact ⟨hp3.2.1, f3, mv_all hN hE hF0 hS.1 hx.1 hy.1 hxy h hp1 hp2 hp3⟩

/-- a new capacity of one arc -/
def ccP (σ τ : Mem) (b : Nat) (a c : Int) : Prop := mfOk τ b ∧ Fr b [2, 3, 5, 6, 7, 10, 11, 12] σ τ ∧ ∀ j, τ (b + 6, 2) j = if j = a then c else σ (b + 6, 2) j
theorem cc_same {σ : Mem} {b : Nat} {a c : Int} (h : mfOk σ b) (e : σ (b + 6, 2) a = c) : ccP σ σ b a c := ⟨h, Fr.rf, fun j => by
  by_cases q : j = a
  · rw [if_pos q, q]; exact e
  · rw [if_neg q]⟩
theorem cc_low {σ σ1 τ : Mem} {b : Nat} {a c : Int} (h : mfOk σ b) (ha : 0 ≤ a ∧ a < σ (0, 1) 0) (hc : 0 ≤ c ∧ c ≤ 100000000) (e1 : mset σ (b + 6, 2) a c = σ1) (e2 : mset σ1 (b + 6, 10) 0 0 = τ) (hs : σ (b + 6, 3) a ≤ c) : ccP σ τ b a c := by
  have f1 : Fr b [2] σ σ1 := by rw [← e1]; exact Fr.set (by decide)
  have f2 : Fr b [10] σ1 τ := by rw [← e2]; exact Fr.set (by decide)
  have f : Fr b [2, 10] σ τ := (f1.up (by decide)).tr (f2.up (by decide))
  have k2 : ∀ j, τ (b + 6, 2) j = if j = a then c else σ (b + 6, 2) j := fun j => by rw [f2.own 2, ← e1, mset_at]
  have k10 : τ (b + 6, 10) 0 = 0 := by rw [← e2, mset_same]
  obtain ⟨⟨hN, hA, hF⟩, hE, ⟨F, hF0, hV⟩, h0, -, -, hz⟩ := h
  refine ⟨⟨⟨f.net hN, f.adj hA, fun j j1 j2 => ?_⟩, hE.elim (fun q => Or.inl (f.eno (k := q))) (fun q => Or.inr (f.eye (k := q))), ⟨F, hF0, fun X => ?_⟩, fun q a a1 a2 => ?_, Or.inl k10, fun q => by omega, fun j j1 j2 => ?_⟩, f.up (by decide), k2⟩
  · rw [f.of 0 1] at j2
    rw [k2 j, f.own 3]
    have := hF j j1 j2
    by_cases q : j = a
    · rw [if_pos q]; rw [q] at this ⊢; omega
    · rw [if_neg q]; exact this
  · rw [net_same (f.of 0 1) (f.of 0 2) (f.of 0 3) (f.own 3), f.own 8, f.own 9]; exact hV X
  · rw [f.own 3]
    rw [f.of 0 1] at a2
    have q' : endsNo σ b := by
      unfold endsNo at q ⊢
      rw [f.own 8, f.own 9] at q; exact q
    exact h0 q' a a1 a2
  · rw [f.of 0 1] at j1
    rw [k2 j, f.own 3, if_neg (by omega)]
    exact hz j j1 j2
theorem cc_mid {σ σ1 σ2 σ3 : Mem} {b : Nat} {a c : Int} (h : mfOk σ b) (ha : 0 ≤ a ∧ a < σ (0, 1) 0) (hc : 0 ≤ c ∧ c ≤ 100000000) (e1 : mset σ (b + 6, 2) a c = σ1) (e2 : mset σ1 (b + 6, 10) 0 0 = σ2) (e3 : mset σ2 (b + 6, 3) a c = σ3) (hs : c < σ (b + 6, 3) a) : Fr b [2, 3, 10] σ σ3 ∧ FlOk σ3 b ∧ endsYes σ3 b ∧ (∃ F, 0 ≤ F ∧ mvI σ3 b F (σ (0, 2) a) (σ (0, 3) a) (σ (b + 6, 3) a - c)) ∧ (∀ j, σ3 (b + 6, 2) j = if j = a then c else σ (b + 6, 2) j) ∧ σ3 (b + 6, 10) 0 = 0 := by
  have f1 : Fr b [2] σ σ1 := by rw [← e1]; exact Fr.set (by decide)
  have f2 : Fr b [10] σ1 σ2 := by rw [← e2]; exact Fr.set (by decide)
  have f12 : Fr b [2, 10] σ σ2 := (f1.up (by decide)).tr (f2.up (by decide))
  have f3 : Fr b [3] σ2 σ3 := by rw [← e3]; exact Fr.set3 (by decide) (by rw [f12.of 0 1]; exact ha.2)
  have f : Fr b [2, 3, 10] σ σ3 := (f12.up (by decide)).tr (f3.up (by decide))
  have k2 : ∀ j, σ3 (b + 6, 2) j = if j = a then c else σ (b + 6, 2) j := fun j => by rw [f3.own 2, f2.own 2, ← e1, mset_at]
  have k3 : ∀ j, σ3 (b + 6, 3) j = if j = a then c else σ (b + 6, 3) j := fun j => by rw [← e3, mset_at, f12.own 3]
  have k10 : σ3 (b + 6, 10) 0 = 0 := by rw [f3.own 10, ← e2, mset_same]
  obtain ⟨⟨hN, hA, hF⟩, hE, ⟨F, hF0, hV⟩, h0, -, -, hz⟩ := h
  have hY : endsYes σ b := by
    rcases hE with q | q
    · have := h0 q a ha.1 ha.2
      omega
    · exact q
  refine ⟨f, fun j j1 j2 => ?_, f.eye (k := hY), ⟨F, hF0, mv_start ha hV (f.of 0 1) (f.of 0 2) (f.of 0 3) (f.own 8) (f.own 9) k3⟩, k2, k10⟩
  rw [f.of 0 1] at j2
  rw [k2 j, k3 j]
  have := hF j j1 j2
  by_cases q : j = a
  · rw [if_pos q, if_pos q]; omega
  · rw [if_neg q, if_neg q]; exact this
theorem cc_end {σ σ3 τ : Mem} {b : Nat} {a c : Int} (h : mfOk σ b) (ha : 0 ≤ a ∧ a < σ (0, 1) 0) (f : Fr b [2, 3, 10] σ σ3) (hY : endsYes σ3 b) (k2 : ∀ j, σ3 (b + 6, 2) j = if j = a then c else σ (b + 6, 2) j) (k10 : σ3 (b + 6, 10) 0 = 0) (hp : FlOk τ b ∧ Fr b [3, 5, 6, 7, 11, 12] σ3 τ ∧ ∃ F, 0 ≤ F ∧ mfV τ b F) : ccP σ τ b a c := by
  obtain ⟨p1, p2, p3⟩ := hp
  have g : Fr b [2, 3, 5, 6, 7, 10, 11, 12] σ τ := (f.up (by decide)).tr (p2.up (by decide))
  obtain ⟨⟨hN, hA, hF⟩, hE, -, h0, -, -, hz⟩ := h
  have hYτ := p2.eye (k := hY)
  refine ⟨⟨⟨g.net hN, g.adj hA, p1⟩, Or.inr hYτ, p3, fun q => (not_both q hYτ).elim, Or.inl (by rw [p2.own 10]; exact k10), fun q => ?_, fun j j1 j2 => ?_⟩, g, fun j => by rw [p2.own 2]; exact k2 j⟩
  · rw [p2.own 10] at q
    omega
  · rw [g.of 0 1] at j1
    rw [p2.own 2, k2 j, if_neg (by omega), g.2 j j1]
    exact hz j j1 j2

set_option maxHeartbeats 4000000 in
set_option maxRecDepth 100000 in
theorem c_X3_changeCapacity (l : Launch) (D : va_G) (cs : Nat → ClassId) (ad : Ix → Nat) (hap : Apart idsF ad) {b : Nat} (hb : b < 2) {σ : Mem} (h : mfOk σ b) {a c : Int} (ha : 0 ≤ a ∧ a < σ (0, 1) 0) (hc : 0 ≤ c ∧ c ≤ 100000000) : CV l D cs idsF ad yX3_changeCapacity cX3_changeCapacity 4 5 [(.ref (ad (b + 6, 0))), (jI a), (jI c)] σ (fun τ => ccP σ τ b a c) := by
  refine CV.of RX3 hap idsF_nd (by decide) rfl (Nat.le_of_ble_eq_true rfl) ?_
  intro pg ev s0 mi av bl mt cd X K hr
  have hN := h.1.1
  have hm := hN.2.1
  have hf := h.1.2.2 a ha.1 ha.2
  refine zr_aloadn X dX3_changeCapacity_0 rfl ?_
  refine zr_get X K (C := RX3) (T := TX3) (N := 6) (k := 1) (mB hb (by decide)) rfl rfl ti_3 (by decide) rfl tw_123 rfl dX3_changeCapacity_1 ?_
  refine zr_getN X K (C := RX1) (T := TX1) (N := 3) (k := 1) (mB hb (by decide)) rfl rfl ti_1 (by decide) rfl tn_83 rfl dX3_changeCapacity_4 ?_
  refine zr_iloadn X dX3_changeCapacity_7 rfl ?_
  refine zr_iald X K (n := 80) (mB hb (by decide)) rfl (by decide) (by omega) dX3_changeCapacity_8 ?_
  refine zr_iloadn X dX3_changeCapacity_9 rfl ?_
  refine zr_icmp_ne X 14 dX3_changeCapacity_10 (by decide) ⟨by omega, by omega⟩ ⟨by omega, by omega⟩ (fun t_10 => ?_) (fun f_10 => ?_)
  · refine zr_aloadn X dX3_changeCapacity_14 rfl ?_
    refine zr_get X K (C := RX3) (T := TX3) (N := 6) (k := 1) (mB hb (by decide)) rfl rfl ti_3 (by decide) rfl tw_123 rfl dX3_changeCapacity_15 ?_
    refine zr_getN X K (C := RX1) (T := TX1) (N := 3) (k := 1) (mB hb (by decide)) rfl rfl ti_1 (by decide) rfl tn_83 rfl dX3_changeCapacity_18 ?_
    refine zr_iloadn X dX3_changeCapacity_21 rfl ?_
    refine zr_iloadn X dX3_changeCapacity_22 rfl ?_
    refine zr_iast X K (n := 80) (mB hb (by decide)) (fun _ => rfl) rfl (by decide) (by omega) dX3_changeCapacity_23 ?_
    generalize hm_σ1 : mset σ (b + 6, 2) a c = σ1
    refine zr_aloadn X dX3_changeCapacity_24 rfl ?_
    refine zr_iconst X dX3_changeCapacity_25 ?_
    refine zr_put X K (q := (b + 6, 10)) (C := RX3) (T := TX3) (ty0 := tyX3) (N := 6) (k := 5) (mB hb (by decide)) (fun _ => rfl) (by simp [mset]) rfl rfl ti_3 tyX3_ok nmX3 (by decide) rfl tw_131 rfl rfl rfl (Nat.le_of_ble_eq_true rfl) dX3_changeCapacity_26 ?_
    generalize hm_σ2 : mset σ1 (b + 6, 10) 0 0 = σ2
    have g12 : Fr b [2, 10] σ σ2 := Fr.tr (τ := σ1) (by rw [← hm_σ1]; exact Fr.set (by decide)) (by rw [← hm_σ2]; exact Fr.set (by decide))
    have g3 : σ2 (b + 6, 3) a = σ (b + 6, 3) a := by rw [g12.own 3]
    refine zr_aloadn X dX3_changeCapacity_29 rfl ?_
    refine zr_get X K (C := RX3) (T := TX3) (N := 6) (k := 1) (mB hb (by decide)) rfl rfl ti_3 (by decide) rfl tw_123 rfl dX3_changeCapacity_30 ?_
    refine zr_getN X K (C := RX1) (T := TX1) (N := 3) (k := 2) (mB hb (by decide)) rfl rfl ti_1 (by decide) rfl tn_85 rfl dX3_changeCapacity_33 ?_
    refine zr_iloadn X dX3_changeCapacity_36 rfl ?_
    refine zr_iald X K (n := 80) (mB hb (by decide)) rfl (by decide) (by omega) dX3_changeCapacity_37 ?_
    refine zr_iloadn X dX3_changeCapacity_38 rfl ?_
    refine zr_isub X dX3_changeCapacity_39 ?_
    refine zr_istoren X dX3_changeCapacity_40 (by decide) rfl ?_
    refine zr_iloadn X dX3_changeCapacity_41 rfl ?_
    refine zr_if_le X 78 dX3_changeCapacity_42 (by decide) ⟨by omega, by omega⟩ (fun t_42 => ?_) (fun f_42 => ?_)
    · refine zr_vret X hr dX3_changeCapacity_78 ?_
      exact cc_low h ha hc hm_σ1 hm_σ2 (by omega)
    · refine zr_aloadn X dX3_changeCapacity_45 rfl ?_
      refine zr_get X K (C := RX3) (T := TX3) (N := 6) (k := 1) (mB hb (by decide)) rfl rfl ti_3 (by decide) rfl tw_123 rfl dX3_changeCapacity_46 ?_
      refine zr_getN X K (C := RX1) (T := TX1) (N := 3) (k := 2) (mB hb (by decide)) rfl rfl ti_1 (by decide) rfl tn_85 rfl dX3_changeCapacity_49 ?_
      refine zr_iloadn X dX3_changeCapacity_52 rfl ?_
      refine zr_iloadn X dX3_changeCapacity_53 rfl ?_
      refine zr_iast X K (n := 80) (mB hb (by decide)) (fun _ => rfl) rfl (by decide) (by omega) dX3_changeCapacity_54 ?_
      generalize hm_σ3 : mset σ2 (b + 6, 3) a c = σ3
      obtain ⟨m1, m2, m3, ⟨F, m4, m5⟩, m6, m7⟩ := cc_mid h ha hc hm_σ1 hm_σ2 hm_σ3 (by omega)
      have ht := hN.2.2 a ha.1 ha.2
      refine zr_aloadn X dX3_changeCapacity_55 rfl ?_
      refine zr_aloadn X dX3_changeCapacity_56 rfl ?_
      refine zr_get X K (C := RX3) (T := TX3) (N := 6) (k := 0) (mB hb (by decide)) rfl rfl ti_3 (by decide) rfl tw_122 rfl dX3_changeCapacity_57 ?_
      refine zr_getN X K (C := RX4) (T := TX4) (N := 6) (k := 2) mF_0_0 rfl rfl ti_4 (by decide) rfl tn_45 rfl dX3_changeCapacity_60 ?_
      refine zr_iloadn X dX3_changeCapacity_63 rfl ?_
      refine zr_iald X K (n := 80) mF_0_2 rfl (by decide) (by omega) dX3_changeCapacity_64 ?_
      refine zr_aloadn X dX3_changeCapacity_65 rfl ?_
      refine zr_get X K (C := RX3) (T := TX3) (N := 6) (k := 0) (mB hb (by decide)) rfl rfl ti_3 (by decide) rfl tw_122 rfl dX3_changeCapacity_66 ?_
      refine zr_getN X K (C := RX4) (T := TX4) (N := 6) (k := 3) mF_0_0 rfl rfl ti_4 (by decide) rfl tn_47 rfl dX3_changeCapacity_69 ?_
      refine zr_iloadn X dX3_changeCapacity_72 rfl ?_
      refine zr_iald X K (n := 80) mF_0_3 rfl (by decide) (by omega) dX3_changeCapacity_73 ?_
      refine zr_iloadn X dX3_changeCapacity_74 rfl ?_
      refine zr_callVV X K (q := (RX3, TX3, 6)) (st := []) (c_X3_moveAway l D cs ad hap hb (σ := σ3) (m1.net hN) (m1.adj h.1.2.1) m2 m3 (F := F) (x := σ3 (0, 2) a) (y := σ3 (0, 3) a) (S := σ2 (b + 6, 3) a - c) m4 (by rw [m1.of 0 2, m1.of 0 0]; exact ht.1) (by rw [m1.of 0 3, m1.of 0 0]; exact ht.2.1) (by rw [m1.of 0 2, m1.of 0 3]; exact ht.2.2) (by omega) (by rw [m1.of 0 2, m1.of 0 3, g3]; exact m5)) ⟨tw_295, tw_297, tp_3, tw_3, tw_298⟩ dc_X3_moveAway (mB hb (by decide)) rfl rfl rfl rfl rfl (Nat.le_of_ble_eq_true rfl) (by decide) dX3_changeCapacity_75 ?_
      intro τ hp
      refine zr_vret X hr dX3_changeCapacity_78 ?_
      exact cc_end h ha m1 m3 m6 m7 hp
  · refine zr_vret X hr dX3_changeCapacity_13 ?_
    exact cc_same h (by omega)
end
section
/-! THE MAXIMUM FLOW: settling, values, masks, ends, copies -/
theorem st_0 {σ : Mem} {b : Nat} (h : mfOk σ b) (e : ¬ σ (b + 6, 10) 0 = 0) : stP σ σ b := ⟨h, by have := h.2.2.2.2.1; omega, Fr.rf⟩
/-- the value that a settled flow has is the maximum -/
theorem st_val {σ τ : Mem} {b : Nat} (h : stP σ τ b) : ∃ F, 0 ≤ F ∧ mfV τ b F ∧ mxB σ b (σ (b + 6, 8) 0) (σ (b + 6, 9) 0) F := by
  obtain ⟨hm, e, f⟩ := h
  obtain ⟨F, h0, hV⟩ := hm.2.2.1
  have hs := (hm.2.2.2.2.2.1 e).2
  have := mx_of hm.1.1 hm.1.2.2 hV hs
  unfold mxB at this
  rw [f.own 8, f.own 9, f.of 0 1, f.of 0 2, f.of 0 3, f.own 2] at this
  exact ⟨F, h0, hV, this⟩
def vaF (σ : Mem) (b : Nat) (s a : Int) : Int := (if σ (0, 2) a = s then σ (b + 6, 3) a else 0) - (if σ (0, 3) a = s then σ (b + 6, 3) a else 0)
/-- the nodes from which the sink cannot be reached -/
def gmP (σ : Mem) (b : Nat) (t k z : Int) : Prop := mk24 z ∧ ∀ v, 0 ≤ v → (bt z v = true ↔ v < k ∧ ∃ X : Int → Bool, clo σ b X ∧ X v = true ∧ ¬ X t = true)
theorem gm_0 {σ : Mem} {b : Nat} {t : Int} : gmP σ b t 0 0 := ⟨⟨by decide, by decide⟩, fun v hv => ⟨fun h => by unfold bt at h; simp at h, fun h => by omega⟩⟩
theorem rc_cut {σ : Mem} {b : Nat} {t k y : Int} (ht : 0 ≤ t) (h : rcP σ b k y) : ¬ bt y t = true ↔ ∃ X : Int → Bool, clo σ b X ∧ X k = true ∧ ¬ X t = true := ⟨fun q => ⟨bt y, h.2.2.1, h.2.1, q⟩, fun ⟨X, x1, x2, x3⟩ q => x3 (h.2.2.2 X x1 x2 t ht q)⟩
theorem gm_no {σ : Mem} {b : Nat} {t k z y : Int} (ht : 0 ≤ t) (h : gmP σ b t k z) (hr : rcP σ b k y) (q : bt y t = true) : gmP σ b t (k + 1) z := ⟨h.1, fun v hv => by
  rw [h.2 v hv]
  constructor
  · rintro ⟨h1, h2⟩; exact ⟨by omega, h2⟩
  · rintro ⟨h1, h2⟩
    refine ⟨?_, h2⟩
    by_cases e : v = k
    · subst e
      exact absurd q ((rc_cut ht hr).mpr h2)
    · omega⟩
theorem gm_yes {σ : Mem} {b : Nat} {t k z y : Int} (ht : 0 ≤ t) (hk : 0 ≤ k ∧ k < 24) (h : gmP σ b t k z) (hr : rcP σ b k y) (q : ¬ bt y t = true) : gmP σ b t (k + 1) (oI z (pI k)) := ⟨oI_lt h.1.2 (pI_rg hk.2).2, fun v hv => by
  rw [bt_o, bt_p hk.1 hv, Bool.or_eq_true, h.2 v hv, decide_eq_true_eq]
  constructor
  · rintro (⟨h1, h2⟩ | rfl)
    · exact ⟨by omega, h2⟩
    · exact ⟨by omega, (rc_cut ht hr).mp q⟩
  · rintro ⟨h1, h2⟩
    by_cases e : v = k
    · exact Or.inr e.symm
    · exact Or.inl ⟨by omega, h2⟩⟩

set_option maxHeartbeats 4000000 in
set_option maxRecDepth 100000 in
theorem c_X3_settle (l : Launch) (D : va_G) (cs : Nat → ClassId) (ad : Ix → Nat) (hap : Apart idsF ad) {b : Nat} (hb : b < 2) {σ : Mem} (h : mfOk σ b) (hE : endsYes σ b) (hc : cut8 σ b) : CV l D cs idsF ad yX3_settle cX3_settle 1 4 [(.ref (ad (b + 6, 0)))] σ (fun τ => stP σ τ b) := by
  refine CV.of RX3 hap idsF_nd (by decide) rfl (Nat.le_of_ble_eq_true rfl) ?_
  intro pg ev s0 mi av bl mt cd X K hr
  have hN := h.1.1
  have hn := hN.1
  have hs := h.2.2.2.2.1
  have hE2 := hE.1
  have hE3 := hE.2.1
  refine zr_aloadn X dX3_settle_0 rfl ?_
  refine zr_get X K (C := RX3) (T := TX3) (N := 6) (k := 5) (mB hb (by decide)) rfl rfl ti_3 (by decide) rfl tw_131 rfl dX3_settle_1 ?_
  refine zr_if_ne X 30 dX3_settle_4 (by decide) ⟨by omega, by omega⟩ (fun t_4 => ?_) (fun f_4 => ?_)
  · refine zr_vret X hr dX3_settle_30 ?_
    exact st_0 h t_4
  · refine zr_aloadn X dX3_settle_7 rfl ?_
    refine zr_get X K (C := RX3) (T := TX3) (N := 6) (k := 2) (mB hb (by decide)) rfl rfl ti_3 (by decide) rfl tw_125 rfl dX3_settle_8 ?_
    refine zr_aloadn X dX3_settle_11 rfl ?_
    refine zr_get X K (C := RX3) (T := TX3) (N := 6) (k := 3) (mB hb (by decide)) rfl rfl ti_3 (by decide) rfl tw_127 rfl dX3_settle_12 ?_
    refine zr_aloadn X dX3_settle_15 rfl ?_
    refine zr_get X K (C := RX3) (T := TX3) (N := 6) (k := 4) (mB hb (by decide)) rfl rfl ti_3 (by decide) rfl tw_129 rfl dX3_settle_16 ?_
    refine zr_ldc (n := 100000000) X dX3_settle_19 tw_414 rfl ?_
    refine zr_callNI X K (q := (RX5, TX5, 7)) (st := []) (c_X5_route l D cs ad hap hb (σ := σ) hN h.1.2.1 h.1.2.2 (s := σ (b + 6, 8) 0) (t := σ (b + 6, 9) 0) (B := 100000000) (by omega) (by omega) ⟨⟨by omega, by omega⟩, by omega⟩) ⟨tn_299, tw_301, tp_4, tw_5, tw_302⟩ dc_X5_route (mB hb (by decide)) rfl rfl rfl rfl rfl (Nat.le_of_ble_eq_true rfl) (by decide) dX3_settle_21 ?_
    intro z τ hp
    refine zr_pop X dX3_settle_24 rfl ?_
    refine zr_aloadn X dX3_settle_25 rfl ?_
    refine zr_iconst X dX3_settle_26 ?_
    refine zr_put X K (q := (b + 6, 10)) (C := RX3) (T := TX3) (ty0 := tyX3) (N := 6) (k := 5) (mB hb (by decide)) (fun _ => rfl) (by simp [mset]) rfl rfl ti_3 tyX3_ok nmX3 (by decide) rfl tw_131 rfl rfl rfl (Nat.le_of_ble_eq_true rfl) dX3_settle_27 ?_
    generalize hm_σ1 : mset τ (b + 6, 10) 0 1 = σ1
    refine zr_vret X hr dX3_settle_30 ?_
    exact st_of h hE hc hp hm_σ1

set_option maxHeartbeats 4000000 in
set_option maxRecDepth 100000 in
theorem c_X3_greatestValue (l : Launch) (D : va_G) (cs : Nat → ClassId) (ad : Ix → Nat) (hap : Apart idsF ad) {b : Nat} (hb : b < 2) {σ : Mem} (h : mfOk σ b) (hE : endsYes σ b) (hc : cut8 σ b) : CI l D cs idsF ad yX3_greatestValue cX3_greatestValue 3 .int 5 [(.ref (ad (b + 6, 0)))] σ (fun z τ => stP σ τ b ∧ mfV τ b z ∧ mxB σ b (σ (b + 6, 8) 0) (σ (b + 6, 9) 0) z) := by
  refine CI.of RX3 hap idsF_nd (by decide) rfl (Nat.le_of_ble_eq_true rfl) ?_
  intro pg ev s0 mi av bl mt cd X K hr
  have hn := h.1.1.1
  refine zr_aloadn X dX3_greatestValue_0 rfl ?_
  refine zr_callVV X K (q := (RX3, TX3, 6)) (st := []) (c_X3_settle l D cs ad hap hb (σ := σ) h hE hc) ⟨tw_410, tw_412, tp_19, tw_3, tw_413⟩ dc_X3_settle (mB hb (by decide)) rfl rfl rfl rfl rfl (Nat.le_of_ble_eq_true rfl) (by decide) dX3_greatestValue_1 ?_
  intro τ hst
  have hN := hst.1.1.1
  have hm := hN.2.1
  have hn2 := hN.1
  have hF := hst.1.1.2.2
  have hEτ := hst.2.2.eye (k := hE)
  have hE1 := hEτ.1
  refine zr_iconst X dX3_greatestValue_4 ?_
  refine zr_istoren X dX3_greatestValue_5 (by decide) rfl ?_
  refine zr_iconst X dX3_greatestValue_6 ?_
  refine zr_istoren X dX3_greatestValue_7 (by decide) rfl ?_
  have loop_8 : ∀ (n_8 : Nat) (y : Int) (i : Int), ((0 ≤ i ∧ i ≤ τ (0, 1) 0) ∧ y = sm (vaF τ b (τ (b + 6, 8) 0)) i.toNat) → (τ (0, 1) 0 - i).toNat < n_8 → Wx pg l ev (rmm 5 0 0) s0 mi av bl mt cd D cs idsF ad (Rg idsF ad) s0.heap 3 (MQ bl (qI D cs idsF ad ((fun z τ => stP σ τ b ∧ mfV τ b z ∧ mxB σ b (σ (b + 6, 8) 0) (σ (b + 6, 9) 0) z))) av s0 0 0 (Rg idsF ad)) 0 0 τ 8 [some (.ref (ad (b + 6, 0))), some (jI y), some (jI i)] [] := by
    intro n_8
    induction n_8 with
    | zero => exact fun y i hinv hn => absurd hn (Nat.not_lt_zero _)
    | succ n_8 ih_8 =>
      intro y i hI_8 hn_8
      have hi0 := hI_8.1
      have hy := hI_8.2
      refine zr_iloadn X dX3_greatestValue_8 rfl ?_
      refine zr_aloadn X dX3_greatestValue_9 rfl ?_
      refine zr_get X K (C := RX3) (T := TX3) (N := 6) (k := 0) (mB hb (by decide)) rfl rfl ti_3 (by decide) rfl tw_122 rfl dX3_greatestValue_10 ?_
      refine zr_getN X K (C := RX4) (T := TX4) (N := 6) (k := 1) mF_0_0 rfl rfl ti_4 (by decide) rfl tn_41 rfl dX3_greatestValue_13 ?_
      refine zr_icmp_ge X 81 dX3_greatestValue_16 (by decide) ⟨by omega, by omega⟩ ⟨by omega, by omega⟩ (fun t_16 => ?_) (fun f_16 => ?_)
      · refine zr_iloadn X dX3_greatestValue_81 rfl ?_
        refine zr_iret X hr dX3_greatestValue_82 ?_
        obtain ⟨F, hF0, hV, hX⟩ := st_val hst
        have hy2 : y = F := by
          have h1 := hV (fun v => decide (v = τ (b + 6, 8) 0))
          rw [net_at, ind_t (decide_eq_true rfl), ind_f (v := τ (b + 6, 9) 0) (by intro q; exact hEτ.2.2 (of_decide_eq_true q).symm)] at h1
          rw [hy, show i = τ (0, 1) 0 by omega]
          unfold vaF
          omega
        rw [hy2]
        exact ⟨hst, hV, hX⟩
      · have hi : 0 ≤ i ∧ i < τ (0, 1) 0 := ⟨by omega, by omega⟩
        have ht := (hN.2.2 i hi.1 hi.2).1
        have hh := (hN.2.2 i hi.1 hi.2).2.1
        refine zr_aloadn X dX3_greatestValue_19 rfl ?_
        refine zr_get X K (C := RX3) (T := TX3) (N := 6) (k := 0) (mB hb (by decide)) rfl rfl ti_3 (by decide) rfl tw_122 rfl dX3_greatestValue_20 ?_
        refine zr_getN X K (C := RX4) (T := TX4) (N := 6) (k := 2) mF_0_0 rfl rfl ti_4 (by decide) rfl tn_45 rfl dX3_greatestValue_23 ?_
        refine zr_iloadn X dX3_greatestValue_26 rfl ?_
        refine zr_iald X K (n := 80) mF_0_2 rfl (by decide) (by omega) dX3_greatestValue_27 ?_
        refine zr_aloadn X dX3_greatestValue_28 rfl ?_
        refine zr_get X K (C := RX3) (T := TX3) (N := 6) (k := 3) (mB hb (by decide)) rfl rfl ti_3 (by decide) rfl tw_127 rfl dX3_greatestValue_29 ?_
        refine zr_icmp_ne X 47 dX3_greatestValue_32 (by decide) ⟨by omega, by omega⟩ ⟨by omega, by omega⟩ (fun t_32 => ?_) (fun f_32 => ?_)
        · refine zr_aloadn X dX3_greatestValue_47 rfl ?_
          refine zr_get X K (C := RX3) (T := TX3) (N := 6) (k := 0) (mB hb (by decide)) rfl rfl ti_3 (by decide) rfl tw_122 rfl dX3_greatestValue_48 ?_
          refine zr_getN X K (C := RX4) (T := TX4) (N := 6) (k := 3) mF_0_0 rfl rfl ti_4 (by decide) rfl tn_47 rfl dX3_greatestValue_51 ?_
          refine zr_iloadn X dX3_greatestValue_54 rfl ?_
          refine zr_iald X K (n := 80) mF_0_3 rfl (by decide) (by omega) dX3_greatestValue_55 ?_
          refine zr_aloadn X dX3_greatestValue_56 rfl ?_
          refine zr_get X K (C := RX3) (T := TX3) (N := 6) (k := 3) (mB hb (by decide)) rfl rfl ti_3 (by decide) rfl tw_127 rfl dX3_greatestValue_57 ?_
          refine zr_icmp_ne X 75 dX3_greatestValue_60 (by decide) ⟨by omega, by omega⟩ ⟨by omega, by omega⟩ (fun t_60 => ?_) (fun f_60 => ?_)
          · refine zr_iinc X dX3_greatestValue_75 rfl (by decide) rfl ?_
            refine zr_goto X 8 dX3_greatestValue_78 (by decide) ?_
            refine Wx.weak (lo' := [some (.ref (ad (b + 6, 0))), some (jI y), some (jI (i + 1))]) ⟨rfl, rfl, rfl, trivial⟩ ?_
            exact ih_8 _ _ ⟨⟨by omega, by omega⟩, by rw [sm_succ hi0.1, ← hy]; unfold vaF; (first | rw [if_pos f_32] | rw [if_neg t_32]); (first | rw [if_pos f_60] | rw [if_neg t_60]); omega⟩ (by omega)
          · refine zr_iloadn X dX3_greatestValue_63 rfl ?_
            refine zr_aloadn X dX3_greatestValue_64 rfl ?_
            refine zr_get X K (C := RX3) (T := TX3) (N := 6) (k := 1) (mB hb (by decide)) rfl rfl ti_3 (by decide) rfl tw_123 rfl dX3_greatestValue_65 ?_
            refine zr_getN X K (C := RX1) (T := TX1) (N := 3) (k := 2) (mB hb (by decide)) rfl rfl ti_1 (by decide) rfl tn_85 rfl dX3_greatestValue_68 ?_
            refine zr_iloadn X dX3_greatestValue_71 rfl ?_
            refine zr_iald X K (n := 80) (mB hb (by decide)) rfl (by decide) (by omega) dX3_greatestValue_72 ?_
            refine zr_isub X dX3_greatestValue_73 ?_
            refine zr_istoren X dX3_greatestValue_74 (by decide) rfl ?_
            refine zr_iinc X dX3_greatestValue_75 rfl (by decide) rfl ?_
            refine zr_goto X 8 dX3_greatestValue_78 (by decide) ?_
            refine Wx.weak (lo' := [some (.ref (ad (b + 6, 0))), some (jI (y - (τ (b + 6, 3) i))), some (jI (i + 1))]) ⟨rfl, rfl, rfl, trivial⟩ ?_
            exact ih_8 _ _ ⟨⟨by omega, by omega⟩, by rw [sm_succ hi0.1, ← hy]; unfold vaF; (first | rw [if_pos f_32] | rw [if_neg t_32]); (first | rw [if_pos f_60] | rw [if_neg t_60]); omega⟩ (by omega)
        · refine zr_iloadn X dX3_greatestValue_35 rfl ?_
          refine zr_aloadn X dX3_greatestValue_36 rfl ?_
          refine zr_get X K (C := RX3) (T := TX3) (N := 6) (k := 1) (mB hb (by decide)) rfl rfl ti_3 (by decide) rfl tw_123 rfl dX3_greatestValue_37 ?_
          refine zr_getN X K (C := RX1) (T := TX1) (N := 3) (k := 2) (mB hb (by decide)) rfl rfl ti_1 (by decide) rfl tn_85 rfl dX3_greatestValue_40 ?_
          refine zr_iloadn X dX3_greatestValue_43 rfl ?_
          refine zr_iald X K (n := 80) (mB hb (by decide)) rfl (by decide) (by omega) dX3_greatestValue_44 ?_
          refine zr_iadd X dX3_greatestValue_45 ?_
          refine zr_istoren X dX3_greatestValue_46 (by decide) rfl ?_
          refine zr_aloadn X dX3_greatestValue_47 rfl ?_
          refine zr_get X K (C := RX3) (T := TX3) (N := 6) (k := 0) (mB hb (by decide)) rfl rfl ti_3 (by decide) rfl tw_122 rfl dX3_greatestValue_48 ?_
          refine zr_getN X K (C := RX4) (T := TX4) (N := 6) (k := 3) mF_0_0 rfl rfl ti_4 (by decide) rfl tn_47 rfl dX3_greatestValue_51 ?_
          refine zr_iloadn X dX3_greatestValue_54 rfl ?_
          refine zr_iald X K (n := 80) mF_0_3 rfl (by decide) (by omega) dX3_greatestValue_55 ?_
          refine zr_aloadn X dX3_greatestValue_56 rfl ?_
          refine zr_get X K (C := RX3) (T := TX3) (N := 6) (k := 3) (mB hb (by decide)) rfl rfl ti_3 (by decide) rfl tw_127 rfl dX3_greatestValue_57 ?_
          refine zr_icmp_ne X 75 dX3_greatestValue_60 (by decide) ⟨by omega, by omega⟩ ⟨by omega, by omega⟩ (fun t_60 => ?_) (fun f_60 => ?_)
          · refine zr_iinc X dX3_greatestValue_75 rfl (by decide) rfl ?_
            refine zr_goto X 8 dX3_greatestValue_78 (by decide) ?_
            refine Wx.weak (lo' := [some (.ref (ad (b + 6, 0))), some (jI (y + (τ (b + 6, 3) i))), some (jI (i + 1))]) ⟨rfl, rfl, rfl, trivial⟩ ?_
            exact ih_8 _ _ ⟨⟨by omega, by omega⟩, by rw [sm_succ hi0.1, ← hy]; unfold vaF; (first | rw [if_pos f_32] | rw [if_neg t_32]); (first | rw [if_pos f_60] | rw [if_neg t_60]); omega⟩ (by omega)
          · refine zr_iloadn X dX3_greatestValue_63 rfl ?_
            refine zr_aloadn X dX3_greatestValue_64 rfl ?_
            refine zr_get X K (C := RX3) (T := TX3) (N := 6) (k := 1) (mB hb (by decide)) rfl rfl ti_3 (by decide) rfl tw_123 rfl dX3_greatestValue_65 ?_
            refine zr_getN X K (C := RX1) (T := TX1) (N := 3) (k := 2) (mB hb (by decide)) rfl rfl ti_1 (by decide) rfl tn_85 rfl dX3_greatestValue_68 ?_
            refine zr_iloadn X dX3_greatestValue_71 rfl ?_
            refine zr_iald X K (n := 80) (mB hb (by decide)) rfl (by decide) (by omega) dX3_greatestValue_72 ?_
            refine zr_isub X dX3_greatestValue_73 ?_
            refine zr_istoren X dX3_greatestValue_74 (by decide) rfl ?_
            refine zr_iinc X dX3_greatestValue_75 rfl (by decide) rfl ?_
            refine zr_goto X 8 dX3_greatestValue_78 (by decide) ?_
            refine Wx.weak (lo' := [some (.ref (ad (b + 6, 0))), some (jI ((y + (τ (b + 6, 3) i)) - (τ (b + 6, 3) i))), some (jI (i + 1))]) ⟨rfl, rfl, rfl, trivial⟩ ?_
            exact ih_8 _ _ ⟨⟨by omega, by omega⟩, by rw [sm_succ hi0.1, ← hy]; unfold vaF; (first | rw [if_pos f_32] | rw [if_neg t_32]); (first | rw [if_pos f_60] | rw [if_neg t_60]); omega⟩ (by omega)
  refine Wx.weak (lo' := [some (.ref (ad (b + 6, 0))), some (jI 0), some (jI 0)]) ⟨rfl, rfl, rfl, trivial⟩ ?_
  exact loop_8 _ _ _ ⟨⟨by omega, by omega⟩, rfl⟩ (Nat.lt_succ_self _)

set_option maxHeartbeats 4000000 in
set_option maxRecDepth 100000 in
theorem c_X3_smallestMask (l : Launch) (D : va_G) (cs : Nat → ClassId) (ad : Ix → Nat) (hap : Apart idsF ad) {b : Nat} (hb : b < 2) {σ : Mem} (h : mfOk σ b) (hE : endsYes σ b) (hc : cut8 σ b) : CI l D cs idsF ad yX3_smallestMask cX3_smallestMask 1 .int 5 [(.ref (ad (b + 6, 0)))] σ (fun z τ => stP σ τ b ∧ rcP τ b (σ (b + 6, 8) 0) z) := by
  refine CI.of RX3 hap idsF_nd (by decide) rfl (Nat.le_of_ble_eq_true rfl) ?_
  intro pg ev s0 mi av bl mt cd X K hr
  refine zr_aloadn X dX3_smallestMask_0 rfl ?_
  refine zr_callVV X K (q := (RX3, TX3, 6)) (st := []) (c_X3_settle l D cs ad hap hb (σ := σ) h hE hc) ⟨tw_410, tw_412, tp_19, tw_3, tw_413⟩ dc_X3_settle (mB hb (by decide)) rfl rfl rfl rfl rfl (Nat.le_of_ble_eq_true rfl) (by decide) dX3_smallestMask_1 ?_
  intro τ hst
  refine zr_aloadn X dX3_smallestMask_4 rfl ?_
  refine zr_get X K (C := RX3) (T := TX3) (N := 6) (k := 1) (mB hb (by decide)) rfl rfl ti_3 (by decide) rfl tw_123 rfl dX3_smallestMask_5 ?_
  refine zr_aloadn X dX3_smallestMask_8 rfl ?_
  refine zr_get X K (C := RX3) (T := TX3) (N := 6) (k := 3) (mB hb (by decide)) rfl rfl ti_3 (by decide) rfl tw_127 rfl dX3_smallestMask_9 ?_
  refine zr_callNI X K (q := (RX1, TX1, 3)) (st := []) (c_X1_reachableFrom l D cs ad hap hb (σ := τ) hst.1.1.1 hst.1.1.2.2 (x := τ (b + 6, 8) 0) (hst.2.2.eye (k := hE)).1) ⟨tn_483, tw_485, tp_28, tw_4, tw_486⟩ dc_X1_reachableFrom (mB hb (by decide)) rfl rfl rfl rfl rfl (Nat.le_of_ble_eq_true rfl) (by decide) dX3_smallestMask_12 ?_
  intro z τ_ hp_
  obtain ⟨hτ_, hz⟩ := hp_
  subst τ_
  rw [hst.2.2.own 8] at hz
  refine zr_iret X hr dX3_smallestMask_15 ?_
  exact ⟨hst, hz⟩

set_option maxHeartbeats 4000000 in
set_option maxRecDepth 100000 in
theorem c_X3_greatestMask (l : Launch) (D : va_G) (cs : Nat → ClassId) (ad : Ix → Nat) (hap : Apart idsF ad) {b : Nat} (hb : b < 2) {σ : Mem} (h : mfOk σ b) (hE : endsYes σ b) (hc : cut8 σ b) : CI l D cs idsF ad yX3_greatestMask cX3_greatestMask 3 .int 5 [(.ref (ad (b + 6, 0)))] σ (fun z τ => stP σ τ b ∧ gmP τ b (σ (b + 6, 9) 0) (σ (0, 0) 0) z) := by
  refine CI.of RX3 hap idsF_nd (by decide) rfl (Nat.le_of_ble_eq_true rfl) ?_
  intro pg ev s0 mi av bl mt cd X K hr
  refine zr_aloadn X dX3_greatestMask_0 rfl ?_
  refine zr_callVV X K (q := (RX3, TX3, 6)) (st := []) (c_X3_settle l D cs ad hap hb (σ := σ) h hE hc) ⟨tw_410, tw_412, tp_19, tw_3, tw_413⟩ dc_X3_settle (mB hb (by decide)) rfl rfl rfl rfl rfl (Nat.le_of_ble_eq_true rfl) (by decide) dX3_greatestMask_1 ?_
  intro τ hst
  have hN := hst.1.1.1
  have hn2 := hN.1
  have hF := hst.1.1.2.2
  have hEτ := hst.2.2.eye (k := hE)
  have hE1 := hEτ.2.1
  refine zr_iconst X dX3_greatestMask_4 ?_
  refine zr_istoren X dX3_greatestMask_5 (by decide) rfl ?_
  refine zr_iconst X dX3_greatestMask_6 ?_
  refine zr_istoren X dX3_greatestMask_7 (by decide) rfl ?_
  have loop_8 : ∀ (n_8 : Nat) (y : Int) (k : Int), ((0 ≤ k ∧ k ≤ τ (0, 0) 0) ∧ gmP τ b (τ (b + 6, 9) 0) k y) → (τ (0, 0) 0 - k).toNat < n_8 → Wx pg l ev (rmm 5 0 0) s0 mi av bl mt cd D cs idsF ad (Rg idsF ad) s0.heap 3 (MQ bl (qI D cs idsF ad ((fun z τ => stP σ τ b ∧ gmP τ b (σ (b + 6, 9) 0) (σ (0, 0) 0) z))) av s0 0 0 (Rg idsF ad)) 0 0 τ 8 [some (.ref (ad (b + 6, 0))), some (jI y), some (jI k)] [] := by
    intro n_8
    induction n_8 with
    | zero => exact fun y k hinv hn => absurd hn (Nat.not_lt_zero _)
    | succ n_8 ih_8 =>
      intro y k hI_8 hn_8
      have hk0 := hI_8.1
      refine zr_iloadn X dX3_greatestMask_8 rfl ?_
      refine zr_aloadn X dX3_greatestMask_9 rfl ?_
      refine zr_get X K (C := RX3) (T := TX3) (N := 6) (k := 0) (mB hb (by decide)) rfl rfl ti_3 (by decide) rfl tw_122 rfl dX3_greatestMask_10 ?_
      refine zr_getN X K (C := RX4) (T := TX4) (N := 6) (k := 0) mF_0_0 rfl rfl ti_4 (by decide) rfl tn_37 rfl dX3_greatestMask_13 ?_
      refine zr_icmp_ge X 49 dX3_greatestMask_16 (by decide) ⟨by omega, by omega⟩ ⟨by omega, by omega⟩ (fun t_16 => ?_) (fun f_16 => ?_)
      · refine zr_iloadn X dX3_greatestMask_49 rfl ?_
        refine zr_iret X hr dX3_greatestMask_50 ?_
        have := hI_8.2
        rw [show k = τ (0, 0) 0 by omega, hst.2.2.own 9, hst.2.2.of 0 0] at this
        exact ⟨hst, this⟩
      · refine zr_aloadn X dX3_greatestMask_19 rfl ?_
        refine zr_get X K (C := RX3) (T := TX3) (N := 6) (k := 1) (mB hb (by decide)) rfl rfl ti_3 (by decide) rfl tw_123 rfl dX3_greatestMask_20 ?_
        refine zr_iloadn X dX3_greatestMask_23 rfl ?_
        refine zr_callNI X K (q := (RX1, TX1, 3)) (st := []) (c_X1_reachableFrom l D cs ad hap hb (σ := τ) hN hF (x := k) ⟨by omega, by omega⟩) ⟨tn_483, tw_485, tp_28, tw_4, tw_486⟩ dc_X1_reachableFrom (mB hb (by decide)) rfl rfl rfl rfl rfl (Nat.le_of_ble_eq_true rfl) (by decide) dX3_greatestMask_24 ?_
        intro q τ_ hp_
        obtain ⟨hτ_, hq⟩ := hp_
        subst τ_
        refine zr_aloadn X dX3_greatestMask_27 rfl ?_
        refine zr_get X K (C := RX3) (T := TX3) (N := 6) (k := 4) (mB hb (by decide)) rfl rfl ti_3 (by decide) rfl tw_129 rfl dX3_greatestMask_28 ?_
        refine zr_callSNI X K (st := []) (c_X6_contains l D cs ad hap (m := q) (v := τ (b + 6, 9) 0) ⟨hq.1.1, by have := hq.1.2; omega⟩ ⟨by omega, by omega⟩) ⟨tn_500, tw_467, tw_1, tw_468⟩ dc_X6_contains rfl rfl (Nat.le_of_ble_eq_true rfl) (by decide) dX3_greatestMask_31 ?_
        intro z_ τ_ hp_
        obtain ⟨hτ_, hz_⟩ := hp_
        subst τ_
        subst z_
        refine zr_if_ne X 43 dX3_greatestMask_34 (by decide) ite01 (fun t_34 => ?_) (fun f_34 => ?_)
        · refine zr_iinc X dX3_greatestMask_43 rfl (by decide) rfl ?_
          refine zr_goto X 8 dX3_greatestMask_46 (by decide) ?_
          refine Wx.weak (lo' := [some (.ref (ad (b + 6, 0))), some (jI y), some (jI (k + 1))]) ⟨rfl, rfl, rfl, trivial⟩ ?_
          exact ih_8 _ _ ⟨⟨by omega, by omega⟩, gm_no hE1.1 hI_8.2 hq (ite1 t_34)⟩ (by omega)
        · refine zr_iloadn X dX3_greatestMask_37 rfl ?_
          refine zr_iconst X dX3_greatestMask_38 ?_
          refine zr_iloadn X dX3_greatestMask_39 rfl ?_
          refine zr_ishl X dX3_greatestMask_40 (zb_shl (by omega) (by omega)) ?_
          refine zr_ior X dX3_greatestMask_41 (zb_or hI_8.2.1.1 (pI_rg (by omega)).1) ?_
          refine zr_istoren X dX3_greatestMask_42 (by decide) rfl ?_
          refine zr_iinc X dX3_greatestMask_43 rfl (by decide) rfl ?_
          refine zr_goto X 8 dX3_greatestMask_46 (by decide) ?_
          refine Wx.weak (lo' := [some (.ref (ad (b + 6, 0))), some (jI (oI y (pI k))), some (jI (k + 1))]) ⟨rfl, rfl, rfl, trivial⟩ ?_
          exact ih_8 _ _ ⟨⟨by omega, by omega⟩, gm_yes hE1.1 ⟨hk0.1, by omega⟩ hI_8.2 hq (ite0 f_34)⟩ (by omega)
  refine Wx.weak (lo' := [some (.ref (ad (b + 6, 0))), some (jI 0), some (jI 0)]) ⟨rfl, rfl, rfl, trivial⟩ ?_
  exact loop_8 _ _ _ ⟨⟨by omega, by omega⟩, gm_0⟩ (Nat.lt_succ_self _)

/-- other ends -/
def ceP (σ τ : Mem) (b : Nat) (s t z : Int) : Prop := mfOk τ b ∧ (∀ g k : Nat, (g ≠ b + 6 ∨ k ∉ [3, 8, 9, 10]) → τ (g, k) = σ (g, k)) ∧ (τ (b + 6, 8) 0 = s ∧ τ (b + 6, 9) 0 = t) ∧ ((z = 0 ∧ σ (b + 6, 8) 0 = s ∧ σ (b + 6, 9) 0 = t ∧ τ = σ) ∨ (z = 1 ∧ ¬ (σ (b + 6, 8) 0 = s ∧ σ (b + 6, 9) 0 = t)))
theorem ce_new {σ σ1 σ2 σ3 τ : Mem} {b : Nat} {s t : Int} (h : mfOk σ b) (hst : (s = -1 ∧ t = -1) ∨ ((0 ≤ s ∧ s < σ (0, 0) 0) ∧ (0 ≤ t ∧ t < σ (0, 0) 0) ∧ s ≠ t)) (e1 : mset σ (b + 6, 8) 0 s = σ1) (e2 : mset σ1 (b + 6, 9) 0 t = σ2) (e3 : mset σ2 (b + 6, 10) 0 0 = σ3) (e4 : τ = mfill σ3 (b + 6, 3) 80 0) (hn : ¬ (σ (b + 6, 8) 0 = s ∧ σ (b + 6, 9) 0 = t)) : ceP σ τ b s t 1 := by
  have f1 : Fr b [8] σ σ1 := by rw [← e1]; exact Fr.set (by decide)
  have f2 : Fr b [9] σ1 σ2 := by rw [← e2]; exact Fr.set (by decide)
  have f3 : Fr b [10] σ2 σ3 := by rw [← e3]; exact Fr.set (by decide)
  have f : Fr b [8, 9, 10] σ σ3 := ((f1.up (by decide)).tr (f2.up (by decide))).tr (f3.up (by decide))
  have g : ∀ g k : Nat, (g ≠ b + 6 ∨ k ≠ 3) → τ (g, k) = σ3 (g, k) := fun g k hq => by
    rw [e4]
    exact mfill_id (fun e => by
      cases e
      rcases hq with hq | hq
      · exact hq rfl
      · exact hq rfl)
  have go : ∀ g' k : Nat, g' < 6 → τ (g', k) = σ (g', k) := fun g' k hg => (g g' k (Or.inl (by omega))).trans (f.1 g' k (Or.inl (by omega)))
  have k3 : ∀ a, 0 ≤ a → a < 80 → τ (b + 6, 3) a = 0 := fun a a1 a2 => by rw [e4, mfill_in a1 a2]
  have k8 : τ (b + 6, 8) 0 = s := by rw [g _ _ (Or.inr (by decide)), f3.own 8, f2.own 8, ← e1, mset_same]
  have k9 : τ (b + 6, 9) 0 = t := by rw [g _ _ (Or.inr (by decide)), f3.own 9, ← e2, mset_same]
  have k10 : τ (b + 6, 10) 0 = 0 := by rw [g _ _ (Or.inr (by decide)), ← e3, mset_same]
  have k2 : τ (b + 6, 2) = σ (b + 6, 2) := (g _ _ (Or.inr (by decide))).trans (f.own 2)
  obtain ⟨⟨hN, hA, hF⟩, -, -, -, -, -, hz⟩ := h
  have hm := hN.2.1
  have hNτ : NetOk τ := by
    unfold NetOk at hN ⊢
    rw [go 0 0 (by decide), go 0 1 (by decide), go 0 2 (by decide), go 0 3 (by decide)]
    exact hN
  have hAτ : AdjOk τ := by
    unfold AdjOk at hA ⊢
    have e : ∀ v : Nat, τ (1, v) = σ (1, v) := fun v => go 1 v (by decide)
    simp only [go 0 0 (by decide), go 0 1 (by decide), go 0 2 (by decide), go 0 3 (by decide), go 0 4 (by decide), e]
    exact hA
  have hFτ : FlOk τ b := fun a a1 a2 => by
    rw [go 0 1 (by decide)] at a2
    rw [k3 a a1 (by omega), k2]
    have := hF a a1 a2
    omega
  refine ⟨⟨⟨hNτ, hAτ, hFτ⟩, ?_, ⟨0, Int.le_refl 0, fun X => ?_⟩, fun _ a a1 a2 => ?_, Or.inl k10, fun q => by omega, fun a a1 a2 => ?_⟩, fun g' k hq => ?_, ⟨k8, k9⟩, Or.inr ⟨rfl, hn⟩⟩
  · unfold endsNo endsYes
    rw [k8, k9, go 0 0 (by decide)]
    exact hst
  · rw [net_zero hNτ.2.1.1 (fun a a1 a2 => by rw [go 0 1 (by decide)] at a2; exact k3 a a1 (by omega)), ind_0, ind_0]
    rfl
  · rw [go 0 1 (by decide)] at a2
    exact k3 a a1 (by omega)
  · rw [go 0 1 (by decide)] at a1
    rw [k2, k3 a (by omega) a2]
    exact ⟨(hz a a1 a2).1, rfl⟩
  · refine (g g' k (hq.elim Or.inl (fun q => Or.inr (fun e => q (by rw [e]; decide))))).trans (f.1 g' k (hq.elim Or.inl (fun q => Or.inr (fun e => q (by simp at e; rcases e with e | e | e <;> rw [e] <;> decide)))))

set_option maxHeartbeats 4000000 in
set_option maxRecDepth 100000 in
theorem c_X3_chooseEnds (l : Launch) (D : va_G) (cs : Nat → ClassId) (ad : Ix → Nat) (hap : Apart idsF ad) {b : Nat} (hb : b < 2) {σ : Mem} (h : mfOk σ b) {s t : Int} (hst : (s = -1 ∧ t = -1) ∨ ((0 ≤ s ∧ s < σ (0, 0) 0) ∧ (0 ≤ t ∧ t < σ (0, 0) 0) ∧ s ≠ t)) : CI l D cs idsF ad yX3_chooseEnds cX3_chooseEnds 3 .boolean 1 [(.ref (ad (b + 6, 0))), (jI s), (jI t)] σ (fun z τ => ceP σ τ b s t z) := by
  refine CI.of RX3 hap idsF_nd (by decide) rfl (Nat.le_of_ble_eq_true rfl) ?_
  intro pg ev s0 mi av bl mt cd X K hr
  have hN := h.1.1
  have hn := hN.1
  have hg := ends_rg hN h.2.1
  refine zr_aloadn X dX3_chooseEnds_0 rfl ?_
  refine zr_get X K (C := RX3) (T := TX3) (N := 6) (k := 3) (mB hb (by decide)) rfl rfl ti_3 (by decide) rfl tw_127 rfl dX3_chooseEnds_1 ?_
  refine zr_iloadn X dX3_chooseEnds_4 rfl ?_
  refine zr_icmp_ne X 18 dX3_chooseEnds_5 (by decide) ⟨by omega, by omega⟩ ⟨by omega, by omega⟩ (fun t_5 => ?_) (fun f_5 => ?_)
  · refine zr_aloadn X dX3_chooseEnds_18 rfl ?_
    refine zr_iloadn X dX3_chooseEnds_19 rfl ?_
    refine zr_put X K (q := (b + 6, 8)) (C := RX3) (T := TX3) (ty0 := tyX3) (N := 6) (k := 3) (mB hb (by decide)) (fun _ => rfl) (by simp [mset]) rfl rfl ti_3 tyX3_ok nmX3 (by decide) rfl tw_127 rfl rfl rfl (Nat.le_of_ble_eq_true rfl) dX3_chooseEnds_20 ?_
    generalize hm_σ1 : mset σ (b + 6, 8) 0 s = σ1
    refine zr_aloadn X dX3_chooseEnds_23 rfl ?_
    refine zr_iloadn X dX3_chooseEnds_24 rfl ?_
    refine zr_put X K (q := (b + 6, 9)) (C := RX3) (T := TX3) (ty0 := tyX3) (N := 6) (k := 4) (mB hb (by decide)) (fun _ => rfl) (by simp [mset]) rfl rfl ti_3 tyX3_ok nmX3 (by decide) rfl tw_129 rfl rfl rfl (Nat.le_of_ble_eq_true rfl) dX3_chooseEnds_25 ?_
    generalize hm_σ2 : mset σ1 (b + 6, 9) 0 t = σ2
    refine zr_aloadn X dX3_chooseEnds_28 rfl ?_
    refine zr_iconst X dX3_chooseEnds_29 ?_
    refine zr_put X K (q := (b + 6, 10)) (C := RX3) (T := TX3) (ty0 := tyX3) (N := 6) (k := 5) (mB hb (by decide)) (fun _ => rfl) (by simp [mset]) rfl rfl ti_3 tyX3_ok nmX3 (by decide) rfl tw_131 rfl rfl rfl (Nat.le_of_ble_eq_true rfl) dX3_chooseEnds_30 ?_
    generalize hm_σ3 : mset σ2 (b + 6, 10) 0 0 = σ3
    refine zr_aloadn X dX3_chooseEnds_33 rfl ?_
    refine zr_get X K (C := RX3) (T := TX3) (N := 6) (k := 1) (mB hb (by decide)) rfl rfl ti_3 (by decide) rfl tw_123 rfl dX3_chooseEnds_34 ?_
    refine zr_getN X K (C := RX1) (T := TX1) (N := 3) (k := 2) (mB hb (by decide)) rfl rfl ti_1 (by decide) rfl tn_85 rfl dX3_chooseEnds_37 ?_
    refine zr_iconst X dX3_chooseEnds_40 ?_
    refine zr_callSV X K (st := []) (c_J7_fill l D cs ad hap (σ := σ3) (g := b + 6) (k := 3) (n := 80) (x := 0) (mB hb (by decide)) (fun _ => rfl) rfl (by decide)) ⟨tw_377, tw_308, tw_14, tw_309⟩ dc_J7_fill_53178 rfl rfl (Nat.le_of_ble_eq_true rfl) (by decide) dX3_chooseEnds_41 ?_
    intro τ hτ
    refine zr_iconst X dX3_chooseEnds_44 ?_
    refine zr_zret X hr dX3_chooseEnds_45 (by omega) ?_
    exact ce_new h hst hm_σ1 hm_σ2 hm_σ3 hτ (by omega)
  · refine zr_aloadn X dX3_chooseEnds_8 rfl ?_
    refine zr_get X K (C := RX3) (T := TX3) (N := 6) (k := 4) (mB hb (by decide)) rfl rfl ti_3 (by decide) rfl tw_129 rfl dX3_chooseEnds_9 ?_
    refine zr_iloadn X dX3_chooseEnds_12 rfl ?_
    refine zr_icmp_ne X 18 dX3_chooseEnds_13 (by decide) ⟨by omega, by omega⟩ ⟨by omega, by omega⟩ (fun t_13 => ?_) (fun f_13 => ?_)
    · refine zr_aloadn X dX3_chooseEnds_18 rfl ?_
      refine zr_iloadn X dX3_chooseEnds_19 rfl ?_
      refine zr_put X K (q := (b + 6, 8)) (C := RX3) (T := TX3) (ty0 := tyX3) (N := 6) (k := 3) (mB hb (by decide)) (fun _ => rfl) (by simp [mset]) rfl rfl ti_3 tyX3_ok nmX3 (by decide) rfl tw_127 rfl rfl rfl (Nat.le_of_ble_eq_true rfl) dX3_chooseEnds_20 ?_
      generalize hm_σ4 : mset σ (b + 6, 8) 0 s = σ4
      refine zr_aloadn X dX3_chooseEnds_23 rfl ?_
      refine zr_iloadn X dX3_chooseEnds_24 rfl ?_
      refine zr_put X K (q := (b + 6, 9)) (C := RX3) (T := TX3) (ty0 := tyX3) (N := 6) (k := 4) (mB hb (by decide)) (fun _ => rfl) (by simp [mset]) rfl rfl ti_3 tyX3_ok nmX3 (by decide) rfl tw_129 rfl rfl rfl (Nat.le_of_ble_eq_true rfl) dX3_chooseEnds_25 ?_
      generalize hm_σ5 : mset σ4 (b + 6, 9) 0 t = σ5
      refine zr_aloadn X dX3_chooseEnds_28 rfl ?_
      refine zr_iconst X dX3_chooseEnds_29 ?_
      refine zr_put X K (q := (b + 6, 10)) (C := RX3) (T := TX3) (ty0 := tyX3) (N := 6) (k := 5) (mB hb (by decide)) (fun _ => rfl) (by simp [mset]) rfl rfl ti_3 tyX3_ok nmX3 (by decide) rfl tw_131 rfl rfl rfl (Nat.le_of_ble_eq_true rfl) dX3_chooseEnds_30 ?_
      generalize hm_σ6 : mset σ5 (b + 6, 10) 0 0 = σ6
      refine zr_aloadn X dX3_chooseEnds_33 rfl ?_
      refine zr_get X K (C := RX3) (T := TX3) (N := 6) (k := 1) (mB hb (by decide)) rfl rfl ti_3 (by decide) rfl tw_123 rfl dX3_chooseEnds_34 ?_
      refine zr_getN X K (C := RX1) (T := TX1) (N := 3) (k := 2) (mB hb (by decide)) rfl rfl ti_1 (by decide) rfl tn_85 rfl dX3_chooseEnds_37 ?_
      refine zr_iconst X dX3_chooseEnds_40 ?_
      refine zr_callSV X K (st := []) (c_J7_fill l D cs ad hap (σ := σ6) (g := b + 6) (k := 3) (n := 80) (x := 0) (mB hb (by decide)) (fun _ => rfl) rfl (by decide)) ⟨tw_377, tw_308, tw_14, tw_309⟩ dc_J7_fill_53178 rfl rfl (Nat.le_of_ble_eq_true rfl) (by decide) dX3_chooseEnds_41 ?_
      intro τ hτ
      refine zr_iconst X dX3_chooseEnds_44 ?_
      refine zr_zret X hr dX3_chooseEnds_45 (by omega) ?_
      exact ce_new h hst hm_σ4 hm_σ5 hm_σ6 hτ (by omega)
    · refine zr_iconst X dX3_chooseEnds_16 ?_
      refine zr_zret X hr dX3_chooseEnds_17 (by omega) ?_
      exact ⟨h, fun _ _ _ => rfl, ⟨by omega, by omega⟩, Or.inl ⟨rfl, by omega, by omega, rfl⟩⟩

set_option maxHeartbeats 4000000 in
set_option maxRecDepth 100000 in
theorem c_X1_block (l : Launch) (D : va_G) (cs : Nat → ClassId) (ad : Ix → Nat) (hap : Apart idsF ad) {b : Nat} (hb : b < 2) {σ : Mem} {a : Int} (ha : 0 ≤ a ∧ a < 80) : CV l D cs idsF ad yX1_block cX1_block 2 0 [(.ref (ad (b + 6, 1))), (jI a)] σ (fun τ => τ = mset (mset σ (b + 6, 2) a 0) (b + 6, 3) a 0) := by
  refine CV.of RX1 hap idsF_nd (by decide) rfl (Nat.le_of_ble_eq_true rfl) ?_
  intro pg ev s0 mi av bl mt cd X K hr
  refine zr_aloadn X dX1_block_0 rfl ?_
  refine zr_get X K (C := RX1) (T := TX1) (N := 3) (k := 1) (mB hb (by decide)) rfl rfl ti_1 (by decide) rfl tw_81 rfl dX1_block_1 ?_
  refine zr_iloadn X dX1_block_4 rfl ?_
  refine zr_iconst X dX1_block_5 ?_
  refine zr_iast X K (n := 80) (mB hb (by decide)) (fun _ => rfl) rfl (by decide) (by omega) dX1_block_6 ?_
  refine zr_aloadn X dX1_block_7 rfl ?_
  refine zr_get X K (C := RX1) (T := TX1) (N := 3) (k := 2) (mB hb (by decide)) rfl rfl ti_1 (by decide) rfl tw_84 rfl dX1_block_8 ?_
  refine zr_iloadn X dX1_block_11 rfl ?_
  refine zr_iconst X dX1_block_12 ?_
  refine zr_iast X K (n := 80) (mB hb (by decide)) (fun _ => rfl) rfl (by decide) (by omega) dX1_block_13 ?_
  refine zr_vret X hr dX1_block_14 ?_
  rfl

set_option maxHeartbeats 4000000 in
set_option maxRecDepth 100000 in
theorem c_X1_copy (l : Launch) (D : va_G) (cs : Nat → ClassId) (ad : Ix → Nat) (hap : Apart idsF ad) {σ : Mem} : CV l D cs idsF ad yX1_copy cX1_copy 2 1 [(.ref (ad (7, 1))), (.ref (ad (6, 1)))] σ (fun τ => τ = mcopy (mcopy σ (6, 2) (7, 2) 80) (6, 3) (7, 3) 80) := by
  refine CV.of RX1 hap idsF_nd (by decide) rfl (Nat.le_of_ble_eq_true rfl) ?_
  intro pg ev s0 mi av bl mt cd X K hr
  refine zr_aloadn X dX1_copy_0 rfl ?_
  refine zr_get X K (v := (.ref (ad (6, 2)))) (C := RX1) (T := TX1) (N := 3) (k := 1) mF_6_1 rfl rfl ti_1 (by decide) rfl tw_81 rfl dX1_copy_1 ?_
  refine zr_iconst X dX1_copy_4 ?_
  refine zr_aloadn X dX1_copy_5 rfl ?_
  refine zr_get X K (v := (.ref (ad (7, 2)))) (C := RX1) (T := TX1) (N := 3) (k := 1) mF_7_1 rfl rfl ti_1 (by decide) rfl tw_81 rfl dX1_copy_6 ?_
  refine zr_iconst X dX1_copy_9 ?_
  refine zr_bipush X dX1_copy_10 rfl ?_
  refine zr_copy X K (n0 := 80) (n1 := 80) mF_6_2 mF_7_2 rfl (fun _ => rfl) rfl (by decide) (by decide) (by decide) tw_427 tw_429 tw_428 tw_16 ⟨Nat.le_of_ble_eq_true rfl, Nat.le_of_ble_eq_true rfl⟩ dX1_copy_12 ?_
  refine zr_aloadn X dX1_copy_15 rfl ?_
  refine zr_get X K (v := (.ref (ad (6, 3)))) (C := RX1) (T := TX1) (N := 3) (k := 2) mF_6_1 rfl rfl ti_1 (by decide) rfl tw_84 rfl dX1_copy_16 ?_
  refine zr_iconst X dX1_copy_19 ?_
  refine zr_aloadn X dX1_copy_20 rfl ?_
  refine zr_get X K (v := (.ref (ad (7, 3)))) (C := RX1) (T := TX1) (N := 3) (k := 2) mF_7_1 rfl rfl ti_1 (by decide) rfl tw_84 rfl dX1_copy_21 ?_
  refine zr_iconst X dX1_copy_24 ?_
  refine zr_bipush X dX1_copy_25 rfl ?_
  refine zr_copy X K (n0 := 80) (n1 := 80) mF_6_3 mF_7_3 rfl (fun _ => rfl) rfl (by decide) (by decide) (by decide) tw_427 tw_429 tw_428 tw_16 ⟨Nat.le_of_ble_eq_true rfl, Nat.le_of_ble_eq_true rfl⟩ dX1_copy_27 ?_
  refine zr_vret X hr dX1_copy_30 ?_
  rfl
end
section
/-! METHODS THAT MAY THROW -/
/-- what a throwing method may change: its world's cells, and those that are new -/
def RgN (ids : List Ix) (ad : Ix → Nat) (sz : Nat) : Nat → Prop := fun q => Rg ids ad q ∨ sz ≤ q
def Zx (A : Nat → Prop) (U : State) : Prop := vx_Zq Bundle.tN "UNASSIGNED_STACK" Bundle.steD A U U.heap ∧ vx_Zq Bundle.tN "SUPPRESSED_SENTINEL" Bundle.listD A U U.heap
def WoX (D : va_G) (cs : Nat → ClassId) (ids : List Ix) (ad : Ix → Nat) (sz : Nat) (σ : Mem) (U : State) : Prop := Wo D cs ids ad σ U ∧ U.heap.size = sz ∧ Zx (RgN ids ad sz) U
abbrev ISE : String := "java/lang/IllegalStateException"
abbrev IOB : String := "java/lang/IndexOutOfBoundsException"
abbrev IAE : String := "java/lang/IllegalArgumentException"
abbrev xI (D : va_G) (cs : Nat → ClassId) (ids : List Ix) (ad : Ix → Nat) (sz : Nat) (σ : Mem) (XP : String → Prop) : String → State → State → Prop := vx_X XP (fun E (u : String) t => E = u ∧ Pic D cs ids ad σ t.heap) (RgN ids ad sz)
abbrev qXI (D : va_G) (cs : Nat → ClassId) (ids : List Ix) (ad : Ix → Nat) (sz : Nat) (Post : Int → Mem → Prop) : Array Value → State → Outcome → State → Prop := va_Qi (fun r (u : Int × Mem) => r = iI u.1 ∧ Post u.1 u.2) (fun u t => Pic D cs ids ad u.2 t.heap) (RgN ids ad sz)
abbrev qXV (D : va_G) (cs : Nat → ClassId) (ids : List Ix) (ad : Ix → Nat) (sz : Nat) (Post : Mem → Prop) : Array Value → State → Outcome → State → Prop := va_Qv (fun (u : Mem) => Post u) (fun u t => Pic D cs ids ad u t.heap) (RgN ids ad sz)
abbrev qXD (D : va_G) (cs : Nat → ClassId) (ids : List Ix) (ad : Ix → Nat) (sz : Nat) (Post : UInt64 → Mem → Prop) : Array Value → State → Outcome → State → Prop := va_Qd (fun r (u : UInt64 × Mem) => r = u.1 ∧ Post u.1 u.2) (fun u t => Pic D cs ids ad u.2 t.heap) (RgN ids ad sz)
/-- a method that answers with a whole number, or throws an exception E with XP E and changes nothing -/
def CXI (l : Launch) (D : va_G) (cs : Nat → ClassId) (ids : List Ix) (ad : Ix → Nat) (y : MethodName) (cc : ByteArray) (nL : Nat) (ret : FieldType) (h mc ms sz : Nat) (as : List Value) (σ : Mem) (Post : Int → Mem → Prop) (XP : String → Prop) : Prop :=
  vx_Met l y (wsy y cc nL (some ret)) (rmm h mc ms) (va_Pc as (fun U => WoX D cs ids ad sz σ U)) (qXI D cs ids ad sz Post) (xI D cs ids ad sz σ XP) mc ms (RgN ids ad sz)
def CXV (l : Launch) (D : va_G) (cs : Nat → ClassId) (ids : List Ix) (ad : Ix → Nat) (y : MethodName) (cc : ByteArray) (nL : Nat) (h mc ms sz : Nat) (as : List Value) (σ : Mem) (Post : Mem → Prop) (XP : String → Prop) : Prop :=
  vx_Met l y (wsy y cc nL none) (rmm h mc ms) (va_Pc as (fun U => WoX D cs ids ad sz σ U)) (qXV D cs ids ad sz Post) (xI D cs ids ad sz σ XP) mc ms (RgN ids ad sz)
def CXD (l : Launch) (D : va_G) (cs : Nat → ClassId) (ids : List Ix) (ad : Ix → Nat) (y : MethodName) (cc : ByteArray) (nL : Nat) (h mc ms sz : Nat) (as : List Value) (σ : Mem) (Post : UInt64 → Mem → Prop) (XP : String → Prop) : Prop :=
  vx_Met l y (wsy y cc nL (some .double)) (rmm h mc ms) (va_Pc as (fun U => WoX D cs ids ad sz σ U)) (qXD D cs ids ad sz Post) (xI D cs ids ad sz σ XP) mc ms (RgN ids ad sz)
/-- what a walk of a throwing method has at hand -/
def Tx (ids : List Ix) (ad : Ix → Nat) (sz : Nat) (s : State) (c : Code) (l : Launch) : Prop := Zx (RgN ids ad sz) s ∧ s.heap.size = sz ∧ (∀ x ∈ c.exceptionTable.toList, False) ∧ l.stackTraces = false
theorem CXI.of {l : Launch} {D : va_G} {cs : Nat → ClassId} {ids : List Ix} {ad : Ix → Nat} {y : MethodName} {cc : ByteArray} {nL h mc ms sz : Nat} {ret : FieldType} {as : List Value} {σ : Mem} {Post : Int → Mem → Prop} {XP : String → Prop} (own : String) (hl : l.stackTraces = false) (hap : Apart ids ad) (hnd : ids.Nodup) (hy : plainName y.cls = true) (ho : y.cls = own) (hlen : (lg_sl as).length ≤ nL)
    (body : ∀ (p : Program) (e : Env) (s : State) (m : MethodId) (args : Array Value) (below : List Frame) (meth : Method) (c : Code), Cx p s m args meth c cc nL own → Kx D cs ids ad (RgN ids ad sz) s → Tx ids ad sz s c l → meth.sig.returnType = some ret →
      Wx p l e (rmm h mc ms) s m args below meth c D cs ids ad (RgN ids ad sz) s.heap nL (vx_MQ below (qXI D cs ids ad sz Post) (xI D cs ids ad sz σ XP) args s mc ms (RgN ids ad sz)) 0 0 σ 0 (entryLo as nL) []) : CXI l D cs ids ad y cc nL ret h mc ms sz as σ Post XP := by
  refine vx_ofW (cc := cc) (maxL := nL) (ret := some ret) hy rfl ?_
  intro p e s m args below meth c s₁ B hml ht hv
  obtain ⟨rfl, ⟨hP, hK, hN, hX⟩, hsz, hZ⟩ := hv
  have hts := atoms_spec (ws := wsy y cc nL (some ret)) B.pre
  have hown : s.vm.findClass own = some m.cls := ho ▸ findClass_of_methodNamed B.named
  rw [lg_entry_eq]
  exact body p e s m as.toArray below meth c ⟨B.exec, B.bytes, hml, hown, fun w hw => hts w (List.mem_cons_of_mem _ hw), B.notSynchronized⟩ ⟨hK, hap, fun i hi => Or.inl ⟨i, hi, rfl⟩, hnd, hN, hX⟩ ⟨hZ, hsz, ht, hl⟩ B.returns s.heap [] _ hP va_S.rf (lo_entry as hlen)
theorem CXV.of {l : Launch} {D : va_G} {cs : Nat → ClassId} {ids : List Ix} {ad : Ix → Nat} {y : MethodName} {cc : ByteArray} {nL h mc ms sz : Nat} {as : List Value} {σ : Mem} {Post : Mem → Prop} {XP : String → Prop} (own : String) (hl : l.stackTraces = false) (hap : Apart ids ad) (hnd : ids.Nodup) (hy : plainName y.cls = true) (ho : y.cls = own) (hlen : (lg_sl as).length ≤ nL)
    (body : ∀ (p : Program) (e : Env) (s : State) (m : MethodId) (args : Array Value) (below : List Frame) (meth : Method) (c : Code), Cx p s m args meth c cc nL own → Kx D cs ids ad (RgN ids ad sz) s → Tx ids ad sz s c l → meth.sig.returnType = none →
      Wx p l e (rmm h mc ms) s m args below meth c D cs ids ad (RgN ids ad sz) s.heap nL (vx_MQ below (qXV D cs ids ad sz Post) (xI D cs ids ad sz σ XP) args s mc ms (RgN ids ad sz)) 0 0 σ 0 (entryLo as nL) []) : CXV l D cs ids ad y cc nL h mc ms sz as σ Post XP := by
  refine vx_ofW (cc := cc) (maxL := nL) (ret := none) hy rfl ?_
  intro p e s m args below meth c s₁ B hml ht hv
  obtain ⟨rfl, ⟨hP, hK, hN, hX⟩, hsz, hZ⟩ := hv
  have hts := atoms_spec (ws := wsy y cc nL none) B.pre
  have hown : s.vm.findClass own = some m.cls := ho ▸ findClass_of_methodNamed B.named
  rw [lg_entry_eq]
  exact body p e s m as.toArray below meth c ⟨B.exec, B.bytes, hml, hown, fun w hw => hts w (List.mem_cons_of_mem _ hw), B.notSynchronized⟩ ⟨hK, hap, fun i hi => Or.inl ⟨i, hi, rfl⟩, hnd, hN, hX⟩ ⟨hZ, hsz, ht, hl⟩ B.returns s.heap [] _ hP va_S.rf (lo_entry as hlen)
theorem CXD.of {l : Launch} {D : va_G} {cs : Nat → ClassId} {ids : List Ix} {ad : Ix → Nat} {y : MethodName} {cc : ByteArray} {nL h mc ms sz : Nat} {as : List Value} {σ : Mem} {Post : UInt64 → Mem → Prop} {XP : String → Prop} (own : String) (hl : l.stackTraces = false) (hap : Apart ids ad) (hnd : ids.Nodup) (hy : plainName y.cls = true) (ho : y.cls = own) (hlen : (lg_sl as).length ≤ nL)
    (body : ∀ (p : Program) (e : Env) (s : State) (m : MethodId) (args : Array Value) (below : List Frame) (meth : Method) (c : Code), Cx p s m args meth c cc nL own → Kx D cs ids ad (RgN ids ad sz) s → Tx ids ad sz s c l → meth.sig.returnType = some .double →
      Wx p l e (rmm h mc ms) s m args below meth c D cs ids ad (RgN ids ad sz) s.heap nL (vx_MQ below (qXD D cs ids ad sz Post) (xI D cs ids ad sz σ XP) args s mc ms (RgN ids ad sz)) 0 0 σ 0 (entryLo as nL) []) : CXD l D cs ids ad y cc nL h mc ms sz as σ Post XP := by
  refine vx_ofW (cc := cc) (maxL := nL) (ret := some .double) hy rfl ?_
  intro p e s m args below meth c s₁ B hml ht hv
  obtain ⟨rfl, ⟨hP, hK, hN, hX⟩, hsz, hZ⟩ := hv
  have hts := atoms_spec (ws := wsy y cc nL (some .double)) B.pre
  have hown : s.vm.findClass own = some m.cls := ho ▸ findClass_of_methodNamed B.named
  rw [lg_entry_eq]
  exact body p e s m as.toArray below meth c ⟨B.exec, B.bytes, hml, hown, fun w hw => hts w (List.mem_cons_of_mem _ hw), B.notSynchronized⟩ ⟨hK, hap, fun i hi => Or.inl ⟨i, hi, rfl⟩, hnd, hN, hX⟩ ⟨hZ, hsz, ht, hl⟩ B.returns s.heap [] _ hP va_S.rf (lo_entry as hlen)
section ZX
variable {p : Program} {l : Launch} {e : Env} {R : Room} {s : State} {m : MethodId} {args : Array Value} {below : List Frame} {meth : Method} {c : Code} {D : va_G} {cs : Nat → ClassId} {ids : List Ix} {ad : Ix → Nat} {nL : Nat} {mc ms sz k n : Nat} {σ σ0 : Mem} {pc : Nat} {lo : List (Option Value)} {st : List Value} {cc : ByteArray} {own : String} {XP : String → Prop}
theorem zr_xiret (X : Cx p s m args meth c cc nL own) {Post : Int → Mem → Prop} {z : Int} (hk : k ≤ mc ∧ n ≤ ms) (hr : meth.sig.returnType = some .int) (d : decode cc pc = .ok (.ireturn, 1)) (h : Post z σ) : Wx p l e R s m args below meth c D cs ids ad (RgN ids ad sz) s.heap nL (vx_MQ below (qXI D cs ids ad sz Post) (xI D cs ids ad sz σ0 XP) args s mc ms (RgN ids ad sz)) k n σ pc lo [jI z] := fun H locs ls hP hS hl =>
  W.widen hk.1 hk.2 (vx_ret (W.iret X.1 X.2.1 hr (fun t ht _ => ⟨⟨iI z, (z, σ), rfl, ⟨rfl, h⟩, (by show Pic D cs ids ad σ t.heap; rw [ht]; exact hP)⟩, hS.F ht⟩) hS.2.2 d X.2.2.2.2.2))
theorem zr_xzret (X : Cx p s m args meth c cc nL own) {Post : Int → Mem → Prop} {z : Int} (hk : k ≤ mc ∧ n ≤ ms) (hr : meth.sig.returnType = some .boolean) (d : decode cc pc = .ok (.ireturn, 1)) (hz : z = 0 ∨ z = 1) (h : Post z σ) : Wx p l e R s m args below meth c D cs ids ad (RgN ids ad sz) s.heap nL (vx_MQ below (qXI D cs ids ad sz Post) (xI D cs ids ad sz σ0 XP) args s mc ms (RgN ids ad sz)) k n σ pc lo [jI z] := fun H locs ls hP hS hl =>
  W.widen hk.1 hk.2 (vx_ret (W.zret X.1 X.2.1 hr (by rcases hz with rfl | rfl <;> rfl) (fun t ht _ => ⟨⟨iI z, (z, σ), rfl, ⟨rfl, h⟩, (by show Pic D cs ids ad σ t.heap; rw [ht]; exact hP)⟩, hS.F ht⟩) hS.2.2 d X.2.2.2.2.2))
theorem zr_xdret (X : Cx p s m args meth c cc nL own) {Post : UInt64 → Mem → Prop} {z : UInt64} (hk : k ≤ mc ∧ n ≤ ms) (hr : meth.sig.returnType = some .double) (d : decode cc pc = .ok (.dreturn, 1)) (h : Post z σ) : Wx p l e R s m args below meth c D cs ids ad (RgN ids ad sz) s.heap nL (vx_MQ below (qXD D cs ids ad sz Post) (xI D cs ids ad sz σ0 XP) args s mc ms (RgN ids ad sz)) k n σ pc lo [.double z] := fun H locs ls hP hS hl =>
  W.widen hk.1 hk.2 (vx_ret (W.dret X.1 X.2.1 hr (fun t ht _ => ⟨⟨z, (z, σ), rfl, ⟨rfl, h⟩, (by show Pic D cs ids ad σ t.heap; rw [ht]; exact hP)⟩, hS.F ht⟩) hS.2.2 d X.2.2.2.2.2))
theorem zr_xvret (X : Cx p s m args meth c cc nL own) {Post : Mem → Prop} (hk : k ≤ mc ∧ n ≤ ms) (hr : meth.sig.returnType = none) (d : decode cc pc = .ok (.return_, 1)) (h : Post σ) : Wx p l e R s m args below meth c D cs ids ad (RgN ids ad sz) s.heap nL (vx_MQ below (qXV D cs ids ad sz Post) (xI D cs ids ad sz σ0 XP) args s mc ms (RgN ids ad sz)) k n σ pc lo [] := fun H locs ls hP hS hl =>
  W.widen hk.1 hk.2 (vx_ret (W.vret X.1 X.2.1 hr (fun t ht _ => ⟨⟨σ, rfl, h, (by show Pic D cs ids ad σ t.heap; rw [ht]; exact hP)⟩, hS.F ht⟩) hS.2.2 d X.2.2.2.2.2))
abbrev xnames : List String := ["java/lang/RuntimeException", "java/lang/Exception"]
/-- an exception of the class's own -/
theorem zr_throw {Qc : Array Value → State → Outcome → State → Prop} (X : Cx p s m args meth c cc nL "FlowNetwork") (K : Kx D cs ids ad (RgN ids ad sz) s) (T : Tx ids ad sz s c l) {E tx : String} {ik is ic : Nat} (hs : (is, tx) ∈ strs) (hk : Cond.classLink "FlowNetwork" ik E ∈ TB) (hini : Cond.initialized E ∈ TB) (hat : ∀ w ∈ vx_atS "FlowNetwork" ic E xnames, w ∈ TB ∨ w ∈ NW) (hgood : ∀ w ∈ Cond.classLink "FlowNetwork" ik E :: Cond.initialized E :: vx_atS "FlowNetwork" ic E xnames, vx_ot w = true) (hfit : Bundle.fit E = true)
    (d0 : decode cc pc = .ok (.new ik, 3)) (d3 : decode cc (pc + 3) = .ok (.dup, 1)) (d4 : decode cc (pc + 4) = .ok (.ldc is, 2)) (d6 : decode cc (pc + 6) = .ok (.invokespecial ic, 3)) (d9 : decode cc (pc + 9) = .ok (.athrow, 1))
    (hR : 5 < R.frames ∧ (st.map fun v => v.category).sum + 82 ≤ R.locals ∧ k + 1 ≤ R.cells ∧ n + 6 ≤ R.slots) (hc : k + 1 ≤ mc ∧ n + 6 ≤ ms) (hx : XP E) :
    Wx p l e R s m args below meth c D cs ids ad (RgN ids ad sz) s.heap nL (vx_MQ below Qc (xI D cs ids ad sz σ XP) args s mc ms (RgN ids ad sz)) k n σ pc lo st := fun H locs ls hP hS hl => by
  obtain ⟨sa, hsa⟩ := K.2.2.2.2.2.1 _ hs
  refine vx_throwS (names := xnames) (A := RgN ids ad sz) (text := tx) X.1 X.2.1 T.2.2.2 X.2.2.2.1 hfit (by decide +kernel) (X.2.2.2.2.1 _ hk) (X.2.2.2.2.1 _ hini) hsa (fun w hw => (hat w hw).elim (X.2.2.2.2.1 w) (fun h => ?_)) hgood T.1.1 T.1.2 hS (hl.1.trans X.2.2.1.symm) d0 d3 d4 d6 d9 (fun x hx => (T.2.2.1 x hx).elim) hR.1 hR.2.1 hR.2.2.1 hR.2.2.2 X.2.2.2.2.2 (fun t hA h1 h2 => ⟨E, hx, ⟨rfl, fun i hi => ?_⟩, ?_⟩) hS.2.2 hc.1 hc.2
  · have h2 : isNest w = true := (List.mem_filter.mp h).2
    have h1 := K.2.2.2.2.1 w h
    cases w <;> first | exact va_Nw.use rfl h1 | cases h2
  · exact (hP i hi).kept (h2 _ (hP i hi).lt)
  · exact ⟨Nat.le_trans hS.1 h1, fun q hq hA' => (h2 q (Nat.lt_of_lt_of_le hq hS.1)).trans (hS.2.1 q hq hA')⟩
theorem Zx_at (T : Tx ids ad sz s c l) {U : State} {H : Heap} {locs : List Loc} (hS : va_S (RgN ids ad sz) s.heap H locs) (hU : U.heap = H) (hW : s.WarmedH U.vm) : Zx (RgN ids ad H.size) U := by
  have hn : ∀ q, RgN ids ad H.size q → RgN ids ad sz q := fun q h => h.elim Or.inl (fun h => Or.inr (by have := hS.1; have := T.2.1; omega))
  unfold Zx
  rw [hU]
  exact ⟨((T.1.1.moved hW.alike).kept (fun a h1 h2 => hS.2.1 a h1 h2)).narrow hn, ((T.1.2.moved hW.alike).kept (fun a h1 h2 => hS.2.1 a h1 h2)).narrow hn⟩
theorem Zx_same {A : Nat → Prop} {u U : State} (hh : u.heap = U.heap) (hv : u.vm = U.vm) (h : Zx A u) : Zx A U := by
  unfold Zx
  rw [← hh]
  exact ⟨h.1.moved (by rw [hv]; exact Vm.Alike.refl U.vm), h.2.moved (by rw [hv]; exact Vm.Alike.refl U.vm)⟩
theorem pre_SX (K : Kx D cs ids ad (RgN ids ad sz) s) (T : Tx ids ad sz s c l) {H : Heap} {locs : List Loc} {As : List Value} (hP : Pic D cs ids ad σ H) (hS : va_S (RgN ids ad sz) s.heap H locs) : PreS s H (va_Pc As (fun U => WoX D cs ids ad H.size σ U)) As :=
  ⟨fun a U g mk q => ⟨q.1, Wo.same (u := U) (U := U.calling g mk a) rfl rfl q.2.1, q.2.2.1, Zx_same (u := U) (U := U.calling g mk a) rfl rfl q.2.2.2⟩, fun U hU hW => ⟨rfl, ⟨by rw [hU]; exact hP, va_K.moved hW.alike K.1, K.2.2.2.2.1.warm hW, K.2.2.2.2.2.warm hW⟩, by rw [hU], Zx_at T hS hU hW⟩⟩
theorem pre_VX (K : Kx D cs ids ad (RgN ids ad sz) s) (T : Tx ids ad sz s c l) {H : Heap} {locs : List Loc} {o : Ix} {ci : Nat} {q : vw_C} {fs : List Value} {As : List Value} (hP : Pic D cs ids ad σ H) (hS : va_S (RgN ids ad sz) s.heap H locs) (ho : o ∈ ids) (he : enc cs ad σ o = .inr (ci, fs)) (hc : vwCl[ci]? = some q) : PreV s H q.1 (ad o) (va_Pc (.ref (ad o) :: As) (fun U => WoX D cs ids ad H.size σ U)) As :=
  ⟨(pre_SX (As := .ref (ad o) :: As) K T hP hS).1, va_recv K.1 (pic_one hP ho he) hc (q0 := 0) rfl, (pre_SX (As := .ref (ad o) :: As) K T hP hS).2⟩
theorem RgN_up {H : Heap} {locs : List Loc} (T : Tx ids ad sz s c l) (hS : va_S (RgN ids ad sz) s.heap H locs) : ∀ q, RgN ids ad H.size q → RgN ids ad sz q := fun q h => h.elim Or.inl (fun h => Or.inr (by have := hS.1; have := T.2.1; omega))
theorem x_out (X : Cx p s m args meth c cc nL own) (T : Tx ids ad sz s c l) {Qc : Array Value → State → Outcome → State → Prop} {XP' : String → Prop} (hx : ∀ E, XP' E → XP E) {H1 : Heap} {locs1 : List Loc} {k1 n1 : Nat} {ls : Array Slot} {st1 : List Value} {E : String} {ce : Cell} {q9 : Addr} {u : String} {t : State} (hc : k1 ≤ mc ∧ n1 ≤ ms) (ht : t.heap = H1) (hu : XP' u) (hB : E = u ∧ Pic D cs ids ad σ t.heap) (hS1 : va_S (RgN ids ad sz) s.heap H1 locs1) (h1 : H1[q9]? = some ce) (h2 : ce.vm = .none) (h3 : s.vm.findClass E = some ce.cls) : vx_W p l e R s m args below meth c H1 locs1 k1 n1 (vx_MQ below Qc (xI D cs ids ad sz σ XP) args s mc ms (RgN ids ad sz)) (F0 m pc ls st1) q9 :=
  vx_out (fun x hx => (T.2.2.1 x hx).elim) X.2.2.2.2.2 h1 h2 h3 (fun t' ht' _ => ⟨u, hx u hu, ⟨hB.1, by rw [ht', ← ht]; exact hB.2⟩, hS1.F ht'⟩) hS1.2.2 hc.1 hc.2
theorem zr_xcallVV {Qc : Array Value → State → Outcome → State → Prop} (X : Cx p s m args meth c cc nL own) (K : Kx D cs ids ad (RgN ids ad sz) s) (T : Tx ids ad sz s c l) {y : MethodName} {bytes : ByteArray} {maxL index na h mc' ms' ci : Nat} {o : Ix} {q : vw_C} {fs : List Value} {As st1 : List Value} {Post : Mem → Prop} {XP' : String → Prop} (hC : ∀ sz', CXV l D cs ids ad y bytes maxL h mc' ms' sz' (.ref (ad o) :: As) σ Post XP') (L : lkV own index y bytes maxL none) (hd : dcl y na) (ho : o ∈ ids) (he : enc cs ad σ o = .inr (ci, fs)) (hc : vwCl[ci]? = some q) (hy : y.cls = q.1) (hst : st1 = As.reverse ++ .ref (ad o) :: st) (hn : As.length = na) (hW : (st.map fun v => v.category).sum ≤ 8) (hR : (h + 1 ≤ R.frames ∧ 8 + (maxL + 11) + (100 + 28 * h) ≤ R.locals) ∧ k + mc' ≤ R.cells ∧ n + ms' ≤ R.slots) (d : decode cc pc = .ok (.invokevirtual index, 3)) (hm : k + mc' ≤ mc ∧ n + ms' ≤ ms) (hx : ∀ E, XP' E → XP E)
    (kk : ∀ (τ : Mem), Post τ → Wx p l e R s m args below meth c D cs ids ad (RgN ids ad sz) s.heap nL (vx_MQ below Qc (xI D cs ids ad sz σ XP) args s mc ms (RgN ids ad sz)) (k + mc') (n + ms') τ (pc + 3) lo st) : Wx p l e R s m args below meth c D cs ids ad (RgN ids ad sz) s.heap nL (vx_MQ below Qc (xI D cs ids ad sz σ XP) args s mc ms (RgN ids ad sz)) k n σ pc lo st1 := fun H locs ls hP hS hl => by
  subst hst
  have hup := RgN_up T hS
  refine vx_callv (vx_runV (As := As) (rest := st) (C := y.cls) ⟨X.1, X.2.1, X.2.2.1, X.2.2.2.1, X.2.2.2.2.1⟩ (hC H.size) (cb_V X L hd hR.1) (by rw [hy]; exact pre_VX K T hP hS ho he hc) rfl hn hl.1 rfl (by show 2 * 0 + _ ≤ 8; omega) d hR.2) hS (fun q _ h => hup q h) hup (fun q _ h => hup q h) (fun E ce q9 u t H1 locs1 ht _ hu hB _ _ hS1 g1 g2 g3 => x_out X T hx hm ht hu hB hS1 g1 g2 g3) (fun u t H1 locs1 ht _ hw hB _ _ hS1 => ?_)
  exact kk u hw H1 locs1 ls (by rw [← ht]; exact hB) hS1 hl
theorem zr_xcallSV {Qc : Array Value → State → Outcome → State → Prop} (X : Cx p s m args meth c cc nL own) (K : Kx D cs ids ad (RgN ids ad sz) s) (T : Tx ids ad sz s c l) {y : MethodName} {bytes : ByteArray} {maxL index na h mc' ms' : Nat} {As st1 : List Value} {Post : Mem → Prop} {XP' : String → Prop} (hC : ∀ sz', CXV l D cs ids ad y bytes maxL h mc' ms' sz' As σ Post XP') (L : lkS own index y bytes maxL none) (hd : dcl y na) (hst : st1 = As.reverse ++ st) (hn : As.length = na) (hW : (st.map fun v => v.category).sum ≤ 8) (hR : (h + 1 ≤ R.frames ∧ 8 + (maxL + 11) + (100 + 28 * h) ≤ R.locals) ∧ k + mc' ≤ R.cells ∧ n + ms' ≤ R.slots) (d : decode cc pc = .ok (.invokestatic index, 3)) (hm : k + mc' ≤ mc ∧ n + ms' ≤ ms) (hx : ∀ E, XP' E → XP E)
    (kk : ∀ (τ : Mem), Post τ → Wx p l e R s m args below meth c D cs ids ad (RgN ids ad sz) s.heap nL (vx_MQ below Qc (xI D cs ids ad sz σ XP) args s mc ms (RgN ids ad sz)) (k + mc') (n + ms') τ (pc + 3) lo st) : Wx p l e R s m args below meth c D cs ids ad (RgN ids ad sz) s.heap nL (vx_MQ below Qc (xI D cs ids ad sz σ XP) args s mc ms (RgN ids ad sz)) k n σ pc lo st1 := fun H locs ls hP hS hl => by
  subst hst
  have hup := RgN_up T hS
  refine vx_callv (vx_runS (As := As) (rest := st) ⟨X.1, X.2.1, X.2.2.1, X.2.2.2.1, X.2.2.2.2.1⟩ (hC H.size) (cb_S X L hd hR.1) (pre_SX K T hP hS) rfl hn hl.1 rfl (by show 2 * 0 + _ ≤ 8; omega) d hR.2) hS (fun q _ h => hup q h) hup (fun q _ h => hup q h) (fun E ce q9 u t H1 locs1 ht _ hu hB _ _ hS1 g1 g2 g3 => x_out X T hx hm ht hu hB hS1 g1 g2 g3) (fun u t H1 locs1 ht _ hw hB _ _ hS1 => ?_)
  exact kk u hw H1 locs1 ls (by rw [← ht]; exact hB) hS1 hl
end ZX
theorem xat_ISE : ∀ w ∈ vx_atS "FlowNetwork" 50 ISE xnames, w ∈ TB ∨ w ∈ NW := by decide +kernel
theorem xat_IOB : ∀ w ∈ vx_atS "FlowNetwork" 166 IOB xnames, w ∈ TB ∨ w ∈ NW := by decide +kernel
theorem xat_IAE : ∀ w ∈ vx_atS "FlowNetwork" 149 IAE xnames, w ∈ TB ∨ w ∈ NW := by decide +kernel
end
section
/-! THE CLASS: what its methods ask for -/

theorem st_48 : ((48, "there are 24 nodes") : Nat × String) ∈ strs := by decide +kernel

theorem st_71 : ((71, "there are 80 arcs") : Nat × String) ∈ strs := by decide +kernel

theorem st_147 : ((147, "this is not the mask of a cut") : Nat × String) ∈ strs := by decide +kernel

theorem st_203 : ((203, "no source and sink are chosen") : Nat × String) ∈ strs := by decide +kernel

theorem st_205 : ((205, "there is no such node") : Nat × String) ∈ strs := by decide +kernel

theorem st_207 : ((207, "there is no such arc") : Nat × String) ∈ strs := by decide +kernel

theorem st_209 : ((209, "both nodes are the same") : Nat × String) ∈ strs := by decide +kernel

theorem st_212 : ((212, "the capacity is not 0 to 1000000") : Nat × String) ∈ strs := by decide +kernel

theorem st_216 : ((216, "the fraction is not from 0 to 1000") : Nat × String) ∈ strs := by decide +kernel

theorem xgd_ISE : ∀ w ∈ Cond.classLink "FlowNetwork" 46 ISE :: Cond.initialized ISE :: vx_atS "FlowNetwork" 50 ISE xnames, vx_ot w = true := by decide +kernel

theorem xgd_IOB : ∀ w ∈ Cond.classLink "FlowNetwork" 162 IOB :: Cond.initialized IOB :: vx_atS "FlowNetwork" 166 IOB xnames, vx_ot w = true := by decide +kernel

theorem xgd_IAE : ∀ w ∈ Cond.classLink "FlowNetwork" 145 IAE :: Cond.initialized IAE :: vx_atS "FlowNetwork" 149 IAE xnames, vx_ot w = true := by decide +kernel

theorem dc_X6_requireEnds : dcl yX6_requireEnds 0 := ⟨by decide, by decide, by decide +kernel⟩
theorem dc_X6_requireNode : dcl yX6_requireNode 1 := ⟨by decide, by decide, by decide +kernel⟩
theorem dc_X6_requireArc : dcl yX6_requireArc 1 := ⟨by decide, by decide, by decide +kernel⟩
theorem dc_X6_requireDifferent : dcl yX6_requireDifferent 2 := ⟨by decide, by decide, by decide +kernel⟩
theorem dc_X6_requireCapacity : dcl yX6_requireCapacity 1 := ⟨by decide, by decide, by decide +kernel⟩

set_option maxHeartbeats 4000000 in
set_option maxRecDepth 100000 in
theorem c_X6_requireEnds (l : Launch) (D : va_G) (cs : Nat → ClassId) (ad : Ix → Nat) (hap : Apart idsF ad) (hl : l.stackTraces = false) {σ : Mem} (hN : NetOk σ) (hE : endsNo σ 0 ∨ endsYes σ 0) (sz : Nat) : CXV l D cs idsF ad yX6_requireEnds cX6_requireEnds 1 6 1 6 sz [(.ref (ad (3, 7)))] σ (fun τ => τ = σ ∧ endsYes σ 0) ((fun E => E = ISE ∧ endsNo σ 0)) := by
  refine CXV.of RX6 hl hap idsF_nd (by decide) rfl (Nat.le_of_ble_eq_true rfl) ?_
  intro pg ev s0 mi av bl mt cd X K T hr
  refine zr_aloadn X dX6_requireEnds_0 rfl ?_
  refine zr_get X K (C := RX6) (T := TX6) (N := 5) (k := 1) mF_3_7 rfl rfl ti_6 (by decide) rfl tw_180 rfl dX6_requireEnds_1 ?_
  refine zr_callNI X K (q := (RX3, TX3, 6)) (st := []) (c_X3_hasEnds l D cs ad hap (b := 0) (by decide) (σ := σ) hN hE) ⟨tn_386, tw_388, tp_17, tw_3, tw_389⟩ dc_X3_hasEnds mF_6_0 rfl rfl rfl rfl rfl (Nat.le_of_ble_eq_true rfl) (by decide) dX6_requireEnds_4 ?_
  intro z τ_ hp_
  obtain ⟨hτ_, hz⟩ := hp_
  subst τ_
  refine zr_if_ne X 20 dX6_requireEnds_7 (by decide) (by rcases hz with q | q <;> exact ⟨by omega, by omega⟩) (fun t_7 => ?_) (fun f_7 => ?_)
  · refine zr_xvret X ⟨by decide, by decide⟩ hr dX6_requireEnds_20 ?_
    exact ⟨rfl, (hz.resolve_right (fun q => by omega)).2⟩
  · exact zr_throw (E := ISE) (tx := "no source and sink are chosen") X K T st_203 tw_390 tw_11 xat_ISE xgd_ISE (by decide +kernel) dX6_requireEnds_10 dX6_requireEnds_13 dX6_requireEnds_14 dX6_requireEnds_16 dX6_requireEnds_19 ⟨Nat.le_of_ble_eq_true rfl, Nat.le_of_ble_eq_true rfl, Nat.le_of_ble_eq_true rfl, Nat.le_of_ble_eq_true rfl⟩ ⟨by decide, by decide⟩ ⟨rfl, (hz.resolve_left (fun q => by omega)).2⟩

set_option maxHeartbeats 4000000 in
set_option maxRecDepth 100000 in
theorem c_X6_requireNode (l : Launch) (D : va_G) (cs : Nat → ClassId) (ad : Ix → Nat) (hap : Apart idsF ad) (hl : l.stackTraces = false) {σ : Mem} (hN : NetOk σ) {v : Int} (hv : rg v) (sz : Nat) : CXV l D cs idsF ad yX6_requireNode cX6_requireNode 2 6 1 6 sz [(.ref (ad (3, 7))), (jI v)] σ (fun τ => τ = σ ∧ 0 ≤ v ∧ v < σ (0, 0) 0) ((fun E => E = IOB ∧ ¬ (0 ≤ v ∧ v < σ (0, 0) 0))) := by
  refine CXV.of RX6 hl hap idsF_nd (by decide) rfl (Nat.le_of_ble_eq_true rfl) ?_
  intro pg ev s0 mi av bl mt cd X K T hr
  have hn := hN.1
  have hv1 := hv.1
  have hv2 := hv.2
  refine zr_iloadn X dX6_requireNode_0 rfl ?_
  refine zr_if_lt X 15 dX6_requireNode_1 (by decide) ⟨by omega, by omega⟩ (fun t_1 => ?_) (fun f_1 => ?_)
  · exact zr_throw (E := IOB) (tx := "there is no such node") X K T st_205 tw_203 tw_12 xat_IOB xgd_IOB (by decide +kernel) dX6_requireNode_15 dX6_requireNode_18 dX6_requireNode_19 dX6_requireNode_21 dX6_requireNode_24 ⟨Nat.le_of_ble_eq_true rfl, Nat.le_of_ble_eq_true rfl, Nat.le_of_ble_eq_true rfl, Nat.le_of_ble_eq_true rfl⟩ ⟨by decide, by decide⟩ ⟨rfl, by omega⟩
  · refine zr_iloadn X dX6_requireNode_4 rfl ?_
    refine zr_aloadn X dX6_requireNode_5 rfl ?_
    refine zr_get X K (C := RX6) (T := TX6) (N := 5) (k := 0) mF_3_7 rfl rfl ti_6 (by decide) rfl tw_179 rfl dX6_requireNode_6 ?_
    refine zr_getN X K (C := RX4) (T := TX4) (N := 6) (k := 0) mF_0_0 rfl rfl ti_4 (by decide) rfl tn_34 rfl dX6_requireNode_9 ?_
    refine zr_icmp_lt X 25 dX6_requireNode_12 (by decide) ⟨by omega, by omega⟩ ⟨by omega, by omega⟩ (fun t_12 => ?_) (fun f_12 => ?_)
    · refine zr_xvret X ⟨by decide, by decide⟩ hr dX6_requireNode_25 ?_
      exact ⟨rfl, by omega, by omega⟩
    · exact zr_throw (E := IOB) (tx := "there is no such node") X K T st_205 tw_203 tw_12 xat_IOB xgd_IOB (by decide +kernel) dX6_requireNode_15 dX6_requireNode_18 dX6_requireNode_19 dX6_requireNode_21 dX6_requireNode_24 ⟨Nat.le_of_ble_eq_true rfl, Nat.le_of_ble_eq_true rfl, Nat.le_of_ble_eq_true rfl, Nat.le_of_ble_eq_true rfl⟩ ⟨by decide, by decide⟩ ⟨rfl, by omega⟩

set_option maxHeartbeats 4000000 in
set_option maxRecDepth 100000 in
theorem c_X6_requireArc (l : Launch) (D : va_G) (cs : Nat → ClassId) (ad : Ix → Nat) (hap : Apart idsF ad) (hl : l.stackTraces = false) {σ : Mem} (hN : NetOk σ) {v : Int} (hv : rg v) (sz : Nat) : CXV l D cs idsF ad yX6_requireArc cX6_requireArc 2 6 1 6 sz [(.ref (ad (3, 7))), (jI v)] σ (fun τ => τ = σ ∧ 0 ≤ v ∧ v < σ (0, 1) 0) ((fun E => E = IOB ∧ ¬ (0 ≤ v ∧ v < σ (0, 1) 0))) := by
  refine CXV.of RX6 hl hap idsF_nd (by decide) rfl (Nat.le_of_ble_eq_true rfl) ?_
  intro pg ev s0 mi av bl mt cd X K T hr
  have hn := hN.2.1
  have hv1 := hv.1
  have hv2 := hv.2
  refine zr_iloadn X dX6_requireArc_0 rfl ?_
  refine zr_if_lt X 15 dX6_requireArc_1 (by decide) ⟨by omega, by omega⟩ (fun t_1 => ?_) (fun f_1 => ?_)
  · exact zr_throw (E := IOB) (tx := "there is no such arc") X K T st_207 tw_203 tw_12 xat_IOB xgd_IOB (by decide +kernel) dX6_requireArc_15 dX6_requireArc_18 dX6_requireArc_19 dX6_requireArc_21 dX6_requireArc_24 ⟨Nat.le_of_ble_eq_true rfl, Nat.le_of_ble_eq_true rfl, Nat.le_of_ble_eq_true rfl, Nat.le_of_ble_eq_true rfl⟩ ⟨by decide, by decide⟩ ⟨rfl, by omega⟩
  · refine zr_iloadn X dX6_requireArc_4 rfl ?_
    refine zr_aloadn X dX6_requireArc_5 rfl ?_
    refine zr_get X K (C := RX6) (T := TX6) (N := 5) (k := 0) mF_3_7 rfl rfl ti_6 (by decide) rfl tw_179 rfl dX6_requireArc_6 ?_
    refine zr_getN X K (C := RX4) (T := TX4) (N := 6) (k := 1) mF_0_0 rfl rfl ti_4 (by decide) rfl tn_39 rfl dX6_requireArc_9 ?_
    refine zr_icmp_lt X 25 dX6_requireArc_12 (by decide) ⟨by omega, by omega⟩ ⟨by omega, by omega⟩ (fun t_12 => ?_) (fun f_12 => ?_)
    · refine zr_xvret X ⟨by decide, by decide⟩ hr dX6_requireArc_25 ?_
      exact ⟨rfl, by omega, by omega⟩
    · exact zr_throw (E := IOB) (tx := "there is no such arc") X K T st_207 tw_203 tw_12 xat_IOB xgd_IOB (by decide +kernel) dX6_requireArc_15 dX6_requireArc_18 dX6_requireArc_19 dX6_requireArc_21 dX6_requireArc_24 ⟨Nat.le_of_ble_eq_true rfl, Nat.le_of_ble_eq_true rfl, Nat.le_of_ble_eq_true rfl, Nat.le_of_ble_eq_true rfl⟩ ⟨by decide, by decide⟩ ⟨rfl, by omega⟩

set_option maxHeartbeats 4000000 in
set_option maxRecDepth 100000 in
theorem c_X6_requireDifferent (l : Launch) (D : va_G) (cs : Nat → ClassId) (ad : Ix → Nat) (hap : Apart idsF ad) (hl : l.stackTraces = false) {σ : Mem} {v w : Int} (hv : rg v) (hw : rg w) (sz : Nat) : CXV l D cs idsF ad yX6_requireDifferent cX6_requireDifferent 2 6 1 6 sz [(jI v), (jI w)] σ (fun τ => τ = σ ∧ v ≠ w) ((fun E => E = IAE ∧ v = w)) := by
  refine CXV.of RX6 hl hap idsF_nd (by decide) rfl (Nat.le_of_ble_eq_true rfl) ?_
  intro pg ev s0 mi av bl mt cd X K T hr
  have hv1 := hv.1
  have hv2 := hv.2
  have hw1 := hw.1
  have hw2 := hw.2
  refine zr_iloadn X dX6_requireDifferent_0 rfl ?_
  refine zr_iloadn X dX6_requireDifferent_1 rfl ?_
  refine zr_icmp_ne X 15 dX6_requireDifferent_2 (by decide) ⟨by omega, by omega⟩ ⟨by omega, by omega⟩ (fun t_2 => ?_) (fun f_2 => ?_)
  · refine zr_xvret X ⟨by decide, by decide⟩ hr dX6_requireDifferent_15 ?_
    exact ⟨rfl, by omega⟩
  · exact zr_throw (E := IAE) (tx := "both nodes are the same") X K T st_209 tw_275 tw_13 xat_IAE xgd_IAE (by decide +kernel) dX6_requireDifferent_5 dX6_requireDifferent_8 dX6_requireDifferent_9 dX6_requireDifferent_11 dX6_requireDifferent_14 ⟨Nat.le_of_ble_eq_true rfl, Nat.le_of_ble_eq_true rfl, Nat.le_of_ble_eq_true rfl, Nat.le_of_ble_eq_true rfl⟩ ⟨by decide, by decide⟩ ⟨rfl, by omega⟩

set_option maxHeartbeats 4000000 in
set_option maxRecDepth 100000 in
theorem c_X6_requireCapacity (l : Launch) (D : va_G) (cs : Nat → ClassId) (ad : Ix → Nat) (hap : Apart idsF ad) (hl : l.stackTraces = false) {σ : Mem} {v : Int} (hv : rg v) (sz : Nat) : CXV l D cs idsF ad yX6_requireCapacity cX6_requireCapacity 1 6 1 6 sz [(jI v)] σ (fun τ => τ = σ ∧ 0 ≤ v ∧ v ≤ 1000000) ((fun E => E = IAE ∧ ¬ (0 ≤ v ∧ v ≤ 1000000))) := by
  refine CXV.of RX6 hl hap idsF_nd (by decide) rfl (Nat.le_of_ble_eq_true rfl) ?_
  intro pg ev s0 mi av bl mt cd X K T hr
  have hv1 := hv.1
  have hv2 := hv.2
  refine zr_iloadn X dX6_requireCapacity_0 rfl ?_
  refine zr_if_lt X 10 dX6_requireCapacity_1 (by decide) ⟨by omega, by omega⟩ (fun t_1 => ?_) (fun f_1 => ?_)
  · exact zr_throw (E := IAE) (tx := "the capacity is not 0 to 1000000") X K T st_212 tw_275 tw_13 xat_IAE xgd_IAE (by decide +kernel) dX6_requireCapacity_10 dX6_requireCapacity_13 dX6_requireCapacity_14 dX6_requireCapacity_16 dX6_requireCapacity_19 ⟨Nat.le_of_ble_eq_true rfl, Nat.le_of_ble_eq_true rfl, Nat.le_of_ble_eq_true rfl, Nat.le_of_ble_eq_true rfl⟩ ⟨by decide, by decide⟩ ⟨rfl, by omega⟩
  · refine zr_iloadn X dX6_requireCapacity_4 rfl ?_
    refine zr_ldc (n := 1000000) X dX6_requireCapacity_5 tw_274 rfl ?_
    refine zr_icmp_le X 20 dX6_requireCapacity_7 (by decide) ⟨by omega, by omega⟩ ⟨by omega, by omega⟩ (fun t_7 => ?_) (fun f_7 => ?_)
    · refine zr_xvret X ⟨by decide, by decide⟩ hr dX6_requireCapacity_20 ?_
      exact ⟨rfl, by omega, by omega⟩
    · exact zr_throw (E := IAE) (tx := "the capacity is not 0 to 1000000") X K T st_212 tw_275 tw_13 xat_IAE xgd_IAE (by decide +kernel) dX6_requireCapacity_10 dX6_requireCapacity_13 dX6_requireCapacity_14 dX6_requireCapacity_16 dX6_requireCapacity_19 ⟨Nat.le_of_ble_eq_true rfl, Nat.le_of_ble_eq_true rfl, Nat.le_of_ble_eq_true rfl, Nat.le_of_ble_eq_true rfl⟩ ⟨by decide, by decide⟩ ⟨rfl, by omega⟩
end
section
/-! THE CLASS: its state, its answers -/
theorem ind_nn2 (X : Int → Bool) {v x : Int} (h : 0 ≤ x) : 0 ≤ ind X v x := ind_nn h
/-- a set is a cut -/
def isMn (m : Nat) (tl hd c : Int → Int) (s t v : Int) : Prop := (∃ X : Int → Bool, X s = true ∧ ¬ X t = true ∧ gcp m tl hd c X = v) ∧ ∀ X : Int → Bool, X s = true → ¬ X t = true → v ≤ gcp m tl hd c X
theorem isMn_of {m : Nat} {tl hd c : Int → Int} {s t v : Int} (h : isMx m tl hd c s t v) : isMn m tl hd c s t v := ⟨h.2, fun _ h1 h2 => isMx_le h h1 h2⟩
theorem isMn_one {m : Nat} {tl hd c : Int → Int} {s t v w : Int} (h : isMn m tl hd c s t v) (k : isMn m tl hd c s t w) : v = w := by
  obtain ⟨⟨X, h1, h2, h3⟩, h4⟩ := h
  obtain ⟨⟨Y, k1, k2, k3⟩, k4⟩ := k
  have a1 := h4 Y k1 k2
  have a2 := k4 X h1 h2
  omega
theorem isMn_cong {m : Nat} {tl hd c tl' hd' c' : Int → Int} {s t v : Int} (h : ∀ a : Int, 0 ≤ a → a < m → tl' a = tl a ∧ hd' a = hd a ∧ c' a = c a) (k : isMn m tl hd c s t v) : isMn m tl' hd' c' s t v := by
  obtain ⟨⟨X, h3, h4, h5⟩, h6⟩ := k
  exact ⟨⟨X, h3, h4, by rw [gcp_cong h]; exact h5⟩, fun Y a1 a2 => by rw [gcp_cong h]; exact h6 Y a1 a2⟩
/-- a minimum cut -/
def mcut (m : Nat) (tl hd c : Int → Int) (s t : Int) (X : Int → Bool) : Prop := X s = true ∧ ¬ X t = true ∧ ∀ Y : Int → Bool, Y s = true → ¬ Y t = true → gcp m tl hd c X ≤ gcp m tl hd c Y
theorem mcut_cong {m : Nat} {tl hd c tl' hd' c' : Int → Int} {s t : Int} {X : Int → Bool} (h : ∀ a : Int, 0 ≤ a → a < m → tl' a = tl a ∧ hd' a = hd a ∧ c' a = c a) (k : mcut m tl hd c s t X) : mcut m tl' hd' c' s t X := ⟨k.1, k.2.1, fun Y a1 a2 => by rw [gcp_cong h, gcp_cong h]; exact k.2.2 Y a1 a2⟩
theorem mcut_val {m : Nat} {tl hd c : Int → Int} {s t v : Int} {X : Int → Bool} (h : isMn m tl hd c s t v) (k : mcut m tl hd c s t X) : gcp m tl hd c X = v := by
  obtain ⟨⟨Y, h1, h2, h3⟩, h4⟩ := h
  have a1 := h4 X k.1 k.2.1
  have a2 := k.2.2 Y h1 h2
  omega
/-- what a flow leaves closed is a minimum cut, and so on -/
theorem mc_iff {σ : Mem} {b : Nat} {F : Int} (hN : NetOk σ) (hF : FlOk σ b) (hV : mfV σ b F) (hs : shut σ b) {X : Int → Bool} (h1 : X (σ (b + 6, 8) 0) = true) (h2 : ¬ X (σ (b + 6, 9) 0) = true) : clo σ b X ↔ mcut (σ (0, 1) 0).toNat (σ (0, 2)) (σ (0, 3)) (σ (b + 6, 2)) (σ (b + 6, 8) 0) (σ (b + 6, 9) 0) X := by
  have hM := isMn_of (mx_of hN hF hV hs)
  have hv := hV X
  rw [ind_t h1, ind_f h2] at hv
  constructor
  · intro h
    have e := clo_net hN hF h
    refine ⟨h1, h2, fun Y y1 y2 => ?_⟩
    have := hM.2 Y y1 y2
    have e3 : cpo σ b X = gcp (σ (0, 1) 0).toNat (σ (0, 2)) (σ (0, 3)) (σ (b + 6, 2)) X := rfl
    omega
  · intro h
    refine net_clo hN hF ?_
    have := mcut_val hM h
    have e3 : cpo σ b X = gcp (σ (0, 1) 0).toNat (σ (0, 2)) (σ (0, 3)) (σ (b + 6, 2)) X := rfl
    omega
/-- the network, with other capacities -/
abbrev mnS (σ : Mem) (c : Int → Int) (s t v : Int) : Prop := isMn (σ (0, 1) 0).toNat (σ (0, 2)) (σ (0, 3)) c s t v
abbrev mcS (σ : Mem) (X : Int → Bool) : Prop := mcut (σ (0, 1) 0).toNat (σ (0, 2)) (σ (0, 3)) (σ (6, 2)) (σ (6, 8) 0) (σ (6, 9) 0) X
def updC (c : Int → Int) (a x : Int) : Int → Int := fun j => if j = a then x else c j
/-! the state between calls -/
def capOk (σ : Mem) : Prop := ∀ a, 0 ≤ a → a < 80 → 0 ≤ σ (6, 2) a ∧ σ (6, 2) a ≤ 1000000
def lvOk (σ : Mem) : Prop := (0 ≤ σ (3, 0) 0 ∧ σ (3, 0) 0 ≤ 8) ∧ (∀ i, 0 ≤ i → i < σ (3, 0) 0 → (σ (3, 1) i = -1 ∧ σ (3, 2) i = -1) ∨ ((0 ≤ σ (3, 1) i ∧ σ (3, 1) i < σ (0, 0) 0) ∧ (0 ≤ σ (3, 2) i ∧ σ (3, 2) i < σ (0, 0) 0) ∧ σ (3, 1) i ≠ σ (3, 2) i)) ∧ ∀ i, 0 ≤ i → i < σ (3, 0) 0 → ∀ a, 0 ≤ a → a < 80 → 0 ≤ σ (2, i.toNat) a ∧ σ (2, i.toNat) a ≤ 1000000
def cuOk (σ : Mem) : Prop := 0 ≤ σ (3, 4) 0 ∧ σ (3, 4) 0 ≤ 300
def fnOk (σ : Mem) : Prop := mfOk σ 0 ∧ capOk σ ∧ lvOk σ ∧ cuOk σ
/-- what a question leaves as it is -/
def keepQ (σ τ : Mem) : Prop := (∀ g k : Nat, g < 6 → τ (g, k) = σ (g, k)) ∧ τ (6, 2) = σ (6, 2) ∧ τ (6, 8) = σ (6, 8) ∧ τ (6, 9) = σ (6, 9)
theorem keepQ.rf {σ : Mem} : keepQ σ σ := ⟨fun _ _ _ => rfl, rfl, rfl, rfl⟩
theorem keepQ.tr {σ τ υ : Mem} (h : keepQ σ τ) (k : keepQ τ υ) : keepQ σ υ := ⟨fun g j hg => (k.1 g j hg).trans (h.1 g j hg), k.2.1.trans h.2.1, k.2.2.1.trans h.2.2.1, k.2.2.2.trans h.2.2.2⟩
theorem keepQ.ok {σ τ : Mem} (k : keepQ σ τ) (h : fnOk σ) (hm : mfOk τ 0) : fnOk τ := by
  refine ⟨hm, ?_, ?_, ?_⟩
  · have := h.2.1
    unfold capOk at this ⊢
    rw [k.2.1]
    exact this
  · have := h.2.2.1
    unfold lvOk at this ⊢
    have e : ∀ v : Nat, τ (2, v) = σ (2, v) := fun v => k.1 2 v (by decide)
    simp only [k.1 3 0 (by decide), k.1 3 1 (by decide), k.1 3 2 (by decide), k.1 0 0 (by decide), e]
    exact this
  · have := h.2.2.2
    unfold cuOk at this ⊢
    rw [k.1 3 4 (by decide)]
    exact this
theorem keepQ.fr0 {σ τ : Mem} {L : List Nat} (h : Fr 0 L σ τ) (h2 : 2 ∉ L := by decide) (h8 : 8 ∉ L := by decide) (h9 : 9 ∉ L := by decide) : keepQ σ τ := ⟨fun g k hg => h.1 g k (Or.inl (by omega)), h.own 2 h2, h.own 8 h8, h.own 9 h9⟩
theorem fr1 {L : List Nat} {σ τ : Mem} (h : Fr 1 L σ τ) : ∀ g k : Nat, g ≠ 7 → τ (g, k) = σ (g, k) := fun g k hg => h.1 g k (Or.inl hg)
theorem keepQ.o7 {σ τ : Mem} (h : ∀ g k : Nat, g ≠ 7 → τ (g, k) = σ (g, k)) : keepQ σ τ := ⟨fun g k hg => h g k (by omega), h 6 2 (by decide), h 6 8 (by decide), h 6 9 (by decide)⟩
theorem mf_cong {σ τ : Mem} {b : Nat} (e : ∀ g k : Nat, g < 2 → τ (g, k) = σ (g, k)) (e2 : ∀ k : Nat, τ (b + 6, k) = σ (b + 6, k)) (h : mfOk σ b) : mfOk τ b := by
  obtain ⟨⟨hN, hA, hF⟩, hE, ⟨F, hF0, hV⟩, h0, h10, hs, hz⟩ := h
  unfold NetOk at hN
  unfold AdjOk at hA
  refine ⟨⟨?_, ?_, ?_⟩, hE.imp (fun q => ?_) (fun q => ?_), ⟨F, hF0, fun X => ?_⟩, fun q => ?_, ?_, fun q => ?_, ?_⟩
  · unfold NetOk
    rw [e 0 0 (by decide), e 0 1 (by decide), e 0 2 (by decide), e 0 3 (by decide)]
    exact hN
  · unfold AdjOk
    have e' : ∀ v : Nat, τ (1, v) = σ (1, v) := fun v => e 1 v (by decide)
    simp only [e 0 0 (by decide), e 0 1 (by decide), e 0 2 (by decide), e 0 3 (by decide), e 0 4 (by decide), e']
    exact hA
  · unfold FlOk
    rw [e 0 1 (by decide), e2 2, e2 3]
    exact hF
  · unfold endsNo
    rw [e2 8, e2 9]
    exact q
  · unfold endsYes
    rw [e2 8, e2 9, e 0 0 (by decide)]
    exact q
  · rw [net_same (e 0 1 (by decide)) (e 0 2 (by decide)) (e 0 3 (by decide)) (e2 3), e2 8, e2 9]
    exact hV X
  · unfold endsNo at q
    rw [e2 8, e2 9] at q
    rw [e 0 1 (by decide), e2 3]
    exact h0 q
  · rw [e2 10]
    exact h10
  · rw [e2 10] at q
    obtain ⟨g1, X, g2, g3, g4⟩ := hs q
    refine ⟨?_, X, ?_, ?_, clo_same (e 0 1 (by decide)) (e 0 2 (by decide)) (e 0 3 (by decide)) (e2 2) (e2 3) g4⟩
    · unfold endsYes
      rw [e2 8, e2 9, e 0 0 (by decide)]
      exact g1
    · rw [e2 8]; exact g2
    · rw [e2 9]; exact g3
  · rw [e 0 1 (by decide), e2 2, e2 3]
    exact hz
/-! a cut below the bound -/
theorem sm_80 {f : Int → Int} {n : Nat} (hn : n ≤ 80) (h : ∀ a : Int, 0 ≤ a → a < n → f a ≤ 1000000) : sm f n ≤ 80000000 := by
  have h1 : sm f n ≤ sm (fun _ => 1000000) n := sm_le h
  rw [sm_const] at h1
  have : (n : Int) ≤ 80 := by omega
  omega
theorem cut_of {σ : Mem} {b : Nat} (hN : NetOk σ) (hE : endsYes σ b) (h : ∀ a, 0 ≤ a → a < σ (0, 1) 0 → σ (b + 6, 2) a ≤ 1000000) : cut8 σ b := by
  refine ⟨fun v => decide (v = σ (b + 6, 8) 0), decide_eq_true rfl, fun q => hE.2.2 (of_decide_eq_true q).symm, ?_⟩
  have hm := hN.2.1
  have : cpo σ b (fun v => decide (v = σ (b + 6, 8) 0)) ≤ 80000000 := sm_80 (by omega) fun a a1 a2 => by
    show (if _ then _ else _) ≤ (1000000 : Int)
    have := h a a1 (by omega)
    split
    · exact this
    · decide
  omega
theorem cut_0 {σ : Mem} (h : fnOk σ) (hE : endsYes σ 0) : cut8 σ 0 := cut_of h.1.1.1 hE fun a a1 a2 => (h.2.1 a a1 (by have := h.1.1.1.2.1; omega)).2
/-! a copy -/
def cpP (σ τ : Mem) : Prop := mfOk τ 1 ∧ (∀ g k : Nat, g ≠ 7 → τ (g, k) = σ (g, k)) ∧ (∀ j, 0 ≤ j → j < 80 → τ (7, 2) j = σ (6, 2) j ∧ τ (7, 3) j = σ (6, 3) j) ∧ τ (7, 8) 0 = σ (6, 8) 0 ∧ τ (7, 9) 0 = σ (6, 9) 0 ∧ τ (7, 10) 0 = σ (6, 10) 0
theorem cp_of {σ σ0 σ1 σ2 τ : Mem} (h : mfOk σ 0) (e0 : σ0 = mcopy (mcopy σ (6, 2) (7, 2) 80) (6, 3) (7, 3) 80) (e1 : mset σ0 (7, 8) 0 (σ0 (6, 8) 0) = σ1) (e2 : mset σ1 (7, 9) 0 (σ1 (6, 9) 0) = σ2) (e3 : mset σ2 (7, 10) 0 (σ2 (6, 10) 0) = τ) : cpP σ τ := by
  have f0 : ∀ g k : Nat, g ≠ 7 → σ0 (g, k) = σ (g, k) := fun g k hg => by
    rw [e0, mcopy_id (fun q => hg (by cases q; rfl)), mcopy_id (fun q => hg (by cases q; rfl))]
  have f1 : ∀ q : Ix, q ≠ (7, 8) → σ1 q = σ0 q := fun q hq => by rw [← e1]; exact mset_id hq
  have f2 : ∀ q : Ix, q ≠ (7, 9) → σ2 q = σ1 q := fun q hq => by rw [← e2]; exact mset_id hq
  have f3 : ∀ q : Ix, q ≠ (7, 10) → τ q = σ2 q := fun q hq => by rw [← e3]; exact mset_id hq
  have fe : ∀ g k : Nat, g ≠ 7 → τ (g, k) = σ (g, k) := fun g k hg => by
    rw [f3 _ (fun q => hg (by cases q; rfl)), f2 _ (fun q => hg (by cases q; rfl)), f1 _ (fun q => hg (by cases q; rfl)), f0 g k hg]
  have k2 : ∀ j, 0 ≤ j → j < 80 → τ (7, 2) j = σ (6, 2) j := fun j j0 j1 => by
    rw [f3 _ (by decide), f2 _ (by decide), f1 _ (by decide), e0, mcopy_id (by decide), mcopy_in j0 j1]
  have k3 : ∀ j, 0 ≤ j → j < 80 → τ (7, 3) j = σ (6, 3) j := fun j j0 j1 => by
    rw [f3 _ (by decide), f2 _ (by decide), f1 _ (by decide), e0, mcopy_in j0 j1, mcopy_id (by decide)]
  have k8 : τ (7, 8) 0 = σ (6, 8) 0 := by rw [f3 _ (by decide), f2 _ (by decide), ← e1, mset_same, f0 6 8 (by decide)]
  have k9 : τ (7, 9) 0 = σ (6, 9) 0 := by rw [f3 _ (by decide), ← e2, mset_same, f1 _ (by decide), f0 6 9 (by decide)]
  have k10 : τ (7, 10) 0 = σ (6, 10) 0 := by rw [← e3, mset_same, f2 _ (by decide), f1 _ (by decide), f0 6 10 (by decide)]
  obtain ⟨⟨hN, hA, hF⟩, hE, ⟨F, hF0, hV⟩, h0, h10, hs, hz⟩ := h
  have hm := hN.2.1
  have e := fun k => fe 0 k (by decide)
  have hr : ∀ a, 0 ≤ a → a < σ (0, 1) 0 → ∀ v, rmF τ 1 a v = rmF σ 0 a v := fun a a1 a2 v => by
    unfold rmF
    rw [e 2, show τ (1 + 6, 2) a = σ (0 + 6, 2) a from k2 a a1 (by omega), show τ (1 + 6, 3) a = σ (0 + 6, 3) a from k3 a a1 (by omega)]
  refine ⟨⟨⟨?_, ?_, ?_⟩, hE.imp (fun q => ?_) (fun q => ?_), ⟨F, hF0, fun X => ?_⟩, fun q a a1 a2 => ?_, ?_, fun q => ?_, fun a a1 a2 => ?_⟩, fe, fun j j0 j1 => ⟨k2 j j0 j1, k3 j j0 j1⟩, k8, k9, k10⟩
  · unfold NetOk at hN ⊢
    rw [e 0, e 1, e 2, e 3]
    exact hN
  · unfold AdjOk at hA ⊢
    have e' : ∀ v : Nat, τ (1, v) = σ (1, v) := fun v => fe 1 v (by decide)
    simp only [e 0, e 1, e 2, e 3, e 4, e']
    exact hA
  · intro a a1 a2
    rw [e 1] at a2
    show 0 ≤ τ (7, 3) a ∧ τ (7, 3) a ≤ τ (7, 2) a ∧ τ (7, 2) a ≤ 100000000
    rw [k2 a a1 (by omega), k3 a a1 (by omega)]
    exact hF a a1 a2
  · exact ⟨k8.trans q.1, k9.trans q.2⟩
  · show (0 ≤ τ (7, 8) 0 ∧ τ (7, 8) 0 < τ (0, 0) 0) ∧ (0 ≤ τ (7, 9) 0 ∧ τ (7, 9) 0 < τ (0, 0) 0) ∧ τ (7, 8) 0 ≠ τ (7, 9) 0
    rw [k8, k9, e 0]
    exact q
  · show net τ 1 X = ind X (τ (7, 8) 0) F - ind X (τ (7, 9) 0) F
    rw [k8, k9]
    refine Eq.trans ?_ (hV X)
    unfold net nf
    rw [e 1]
    refine sm_cong fun a a1 a2 => ?_
    show ind X (τ (0, 2) a) (τ (7, 3) a) - ind X (τ (0, 3) a) (τ (7, 3) a) = _
    rw [e 2, e 3, k3 a a1 (by omega)]
  · show τ (7, 3) a = 0
    rw [e 1] at a2
    rw [k3 a a1 (by omega)]
    exact h0 ⟨k8.symm.trans q.1, k9.symm.trans q.2⟩ a a1 a2
  · show τ (7, 10) 0 = 0 ∨ τ (7, 10) 0 = 1
    rw [k10]
    exact h10
  · obtain ⟨g1, X, g2, g3, g4⟩ := hs (k10.symm.trans q)
    refine ⟨?_, X, ?_, ?_, fun a a1 a2 => ?_⟩
    · show (0 ≤ τ (7, 8) 0 ∧ τ (7, 8) 0 < τ (0, 0) 0) ∧ (0 ≤ τ (7, 9) 0 ∧ τ (7, 9) 0 < τ (0, 0) 0) ∧ τ (7, 8) 0 ≠ τ (7, 9) 0
      rw [k8, k9, e 0]
      exact g1
    · show X (τ (7, 8) 0) = true
      rw [k8]; exact g2
    · show ¬ X (τ (7, 9) 0) = true
      rw [k9]; exact g3
    · rw [e 1] at a2
      rw [e 2, e 3, hr a a1 a2, hr a a1 a2]
      exact g4 a a1 a2
  · rw [e 1] at a1
    show τ (7, 2) a = 0 ∧ τ (7, 3) a = 0
    rw [k2 a (by omega) a2, k3 a (by omega) a2]
    exact hz a a1 a2


set_option maxHeartbeats 4000000 in
set_option maxRecDepth 100000 in
theorem c_X3_copy (l : Launch) (D : va_G) (cs : Nat → ClassId) (ad : Ix → Nat) (hap : Apart idsF ad) {σ : Mem} (h : mfOk σ 0) : CV l D cs idsF ad yX3_copy cX3_copy 2 2 [(.ref (ad (7, 0))), (.ref (ad (6, 0)))] σ (fun τ => cpP σ τ) := by
  refine CV.of RX3 hap idsF_nd (by decide) rfl (Nat.le_of_ble_eq_true rfl) ?_
  intro pg ev s0 mi av bl mt cd X K hr
  refine zr_aloadn X dX3_copy_0 rfl ?_
  refine zr_get X K (v := (.ref (ad (7, 1)))) (C := RX3) (T := TX3) (N := 6) (k := 1) mF_7_0 rfl rfl ti_3 (by decide) rfl tw_123 rfl dX3_copy_1 ?_
  refine zr_aloadn X dX3_copy_4 rfl ?_
  refine zr_get X K (v := (.ref (ad (6, 1)))) (C := RX3) (T := TX3) (N := 6) (k := 1) mF_6_0 rfl rfl ti_3 (by decide) rfl tw_123 rfl dX3_copy_5 ?_
  refine zr_callNV X K (q := (RX1, TX1, 3)) (st := []) (c_X1_copy l D cs ad hap (σ := σ)) ⟨tn_423, tw_425, tp_21, tw_4, tw_426⟩ dc_X1_copy mF_7_1 rfl rfl rfl rfl rfl (Nat.le_of_ble_eq_true rfl) (by decide) dX3_copy_8 ?_
  intro τ1 hc1
  refine zr_aloadn X dX3_copy_11 rfl ?_
  refine zr_aloadn X dX3_copy_12 rfl ?_
  refine zr_get X K (v := (jI (τ1 (6, 8) 0))) (C := RX3) (T := TX3) (N := 6) (k := 3) mF_6_0 rfl rfl ti_3 (by decide) rfl tw_127 rfl dX3_copy_13 ?_
  refine zr_put X K (q := (7, 8)) (C := RX3) (T := TX3) (ty0 := tyX3) (N := 6) (k := 3) mF_7_0 (fun _ => rfl) (by simp [mset]) rfl rfl ti_3 tyX3_ok nmX3 (by decide) rfl tw_127 rfl rfl rfl (Nat.le_of_ble_eq_true rfl) dX3_copy_16 ?_
  generalize hm_σ1 : mset τ1 (7, 8) 0 (τ1 (6, 8) 0) = σ1
  refine zr_aloadn X dX3_copy_19 rfl ?_
  refine zr_aloadn X dX3_copy_20 rfl ?_
  refine zr_get X K (v := (jI (σ1 (6, 9) 0))) (C := RX3) (T := TX3) (N := 6) (k := 4) mF_6_0 rfl rfl ti_3 (by decide) rfl tw_129 rfl dX3_copy_21 ?_
  refine zr_put X K (q := (7, 9)) (C := RX3) (T := TX3) (ty0 := tyX3) (N := 6) (k := 4) mF_7_0 (fun _ => rfl) (by simp [mset]) rfl rfl ti_3 tyX3_ok nmX3 (by decide) rfl tw_129 rfl rfl rfl (Nat.le_of_ble_eq_true rfl) dX3_copy_24 ?_
  generalize hm_σ2 : mset σ1 (7, 9) 0 (σ1 (6, 9) 0) = σ2
  refine zr_aloadn X dX3_copy_27 rfl ?_
  refine zr_aloadn X dX3_copy_28 rfl ?_
  refine zr_get X K (v := (jI (σ2 (6, 10) 0))) (C := RX3) (T := TX3) (N := 6) (k := 5) mF_6_0 rfl rfl ti_3 (by decide) rfl tw_131 rfl dX3_copy_29 ?_
  have hs10 : σ2 (6, 10) 0 = 0 ∨ σ2 (6, 10) 0 = 1 := by
    rw [← hm_σ2, mset_id (by decide), ← hm_σ1, mset_id (by decide), hc1, mcopy_id (by decide), mcopy_id (by decide)]
    exact h.2.2.2.2.1
  refine zr_put X K (q := (7, 10)) (C := RX3) (T := TX3) (ty0 := tyX3) (N := 6) (k := 5) mF_7_0 (fun _ => rfl) (by simp [mset]) rfl rfl ti_3 tyX3_ok nmX3 (by decide) rfl tw_131 rfl (by rcases hs10 with q | q <;> (rw [q]; rfl)) (by rcases hs10 with q | q <;> (rw [q]; rfl)) (Nat.le_of_ble_eq_true rfl) dX3_copy_32 ?_
  generalize hm_σ3 : mset σ2 (7, 10) 0 (σ2 (6, 10) 0) = σ3
  refine zr_vret X hr dX3_copy_35 ?_
  exact cp_of h hc1 hm_σ1 hm_σ2 hm_σ3
end
section
/-! THE CLASS: what it answers about the maximum -/
theorem b_not {a b : Bool} (h : ¬ a = true) (k : ¬ b = true) : ¬ (a || b) = true := fun q => (Bool.or_eq_true a b ▸ q : a = true ∨ b = true).elim h k
theorem b_l {a b : Bool} (h : a = true) : (a || b) = true := by rw [h]; rfl
theorem b_r {a b : Bool} (h : b = true) : (a || b) = true := by rw [h, Bool.or_true]
theorem fnOk.net {σ : Mem} (h : fnOk σ) : NetOk σ := h.1.1.1
theorem fnOk.ends {σ : Mem} (h : fnOk σ) : endsNo σ 0 ∨ endsYes σ 0 := h.1.2.1
/-- the trial holds the capacities c and the ends s, t -/
def trP (σ υ : Mem) (c : Int → Int) (s t : Int) : Prop := mfOk υ 1 ∧ (∀ g k : Nat, g ≠ 7 → υ (g, k) = σ (g, k)) ∧ (∀ j, 0 ≤ j → j < 80 → υ (7, 2) j = c j) ∧ υ (7, 8) 0 = s ∧ υ (7, 9) 0 = t
theorem tr_cp {σ τ : Mem} (h : cpP σ τ) : trP σ τ (σ (6, 2)) (σ (6, 8) 0) (σ (6, 9) 0) := ⟨h.1, h.2.1, fun j a b => (h.2.2.1 j a b).1, h.2.2.2.1, h.2.2.2.2.1⟩
theorem tr_cc {σ υ τ : Mem} {c : Int → Int} {s t a x : Int} (h : trP σ υ c s t) (k : ccP υ τ 1 a x) : trP σ τ (updC c a x) s t := by
  obtain ⟨-, h2, h3, h4, h5⟩ := h
  obtain ⟨k1, k2, k3⟩ := k
  refine ⟨k1, fun g q hg => (fr1 k2 g q hg).trans (h2 g q hg), fun j j0 j1 => ?_, ?_, ?_⟩
  · refine (k3 j).trans ?_
    unfold updC
    split
    · rfl
    · exact h3 j j0 j1
  · exact (congrFun (k2.own 8) 0).trans h4
  · exact (congrFun (k2.own 9) 0).trans h5
theorem tr_eq {σ υ : Mem} {c c' : Int → Int} {s t : Int} (h : trP σ υ c s t) (e : ∀ j, 0 ≤ j → j < 80 → c j = c' j) : trP σ υ c' s t := ⟨h.1, h.2.1, fun j a b => (h.2.2.1 j a b).trans (e j a b), h.2.2.2.1, h.2.2.2.2⟩
theorem tr_ce {σ υ τ : Mem} {c : Int → Int} {s t s' t' z : Int} (h : trP σ υ c s t) (k : ceP υ τ 1 s' t' z) : trP σ τ c s' t' := by
  obtain ⟨-, h2, h3, h4, h5⟩ := h
  obtain ⟨k1, k2, ⟨k3, k4⟩, -⟩ := k
  refine ⟨k1, fun g q hg => (k2 g q (Or.inl hg)).trans (h2 g q hg), fun j j0 j1 => ?_, k3, k4⟩
  exact (congrFun (k2 7 2 (Or.inr (by decide))) j).trans (h3 j j0 j1)
theorem tr_ey {σ υ : Mem} {c : Int → Int} {s t : Int} (h : trP σ υ c s t) (hs : 0 ≤ s ∧ s < σ (0, 0) 0) (ht : 0 ≤ t ∧ t < σ (0, 0) 0) (hst : s ≠ t) : endsYes υ 1 := by
  show (0 ≤ υ (7, 8) 0 ∧ υ (7, 8) 0 < υ (0, 0) 0) ∧ (0 ≤ υ (7, 9) 0 ∧ υ (7, 9) 0 < υ (0, 0) 0) ∧ υ (7, 8) 0 ≠ υ (7, 9) 0
  rw [h.2.2.2.1, h.2.2.2.2, h.2.1 0 0 (by decide)]
  exact ⟨hs, ht, hst⟩
theorem tr_c8 {σ υ : Mem} {c : Int → Int} {s t : Int} (h : trP σ υ c s t) (hE : endsYes υ 1) (hc : ∀ j, 0 ≤ j → j < 80 → c j ≤ 1000000) : cut8 υ 1 := cut_of h.1.1.1 hE fun a a1 a2 => by
  have := h.1.1.1.2.1
  show υ (7, 2) a ≤ 1000000
  rw [h.2.2.1 a a1 (by omega)]
  exact hc a a1 (by omega)
theorem tr_gv {σ υ τ : Mem} {c : Int → Int} {s t z : Int} (h : trP σ υ c s t) (hf : fnOk σ) (k : stP υ τ 1 ∧ mfV τ 1 z ∧ mxB υ 1 (υ (7, 8) 0) (υ (7, 9) 0) z) : fnOk τ ∧ keepQ σ τ ∧ mnS σ c s t z := by
  obtain ⟨k1, -, k3⟩ := k
  have e : ∀ g q : Nat, g ≠ 7 → τ (g, q) = σ (g, q) := fun g q hg => (fr1 k1.2.2 g q hg).trans (h.2.1 g q hg)
  have hk := keepQ.o7 e
  refine ⟨hk.ok hf (mf_cong (fun g q hg => e g q (by omega)) (fun q => e 6 q (by decide)) hf.1), hk, ?_⟩
  have h1 : mxB υ 1 s t z := by rw [← h.2.2.2.1, ← h.2.2.2.2]; exact k3
  have hm := hf.net.2.1
  have e1 : υ (0, 1) = σ (0, 1) := h.2.1 0 1 (by decide)
  have e2 : υ (0, 2) = σ (0, 2) := h.2.1 0 2 (by decide)
  have e3 : υ (0, 3) = σ (0, 3) := h.2.1 0 3 (by decide)
  have h2 : isMn (υ (0, 1) 0).toNat (υ (0, 2)) (υ (0, 3)) (υ (7, 2)) s t z := isMn_of h1
  rw [e1, e2, e3] at h2
  exact isMn_cong (fun a a1 a2 => ⟨rfl, rfl, (h.2.2.1 a a1 (by omega)).symm⟩) h2
theorem cap_upd {σ : Mem} (h : capOk σ) {a x : Int} (hx : x ≤ 1000000) : ∀ j, 0 ≤ j → j < 80 → updC (σ (6, 2)) a x j ≤ 1000000 := fun j j0 j1 => by
  unfold updC
  split
  · exact hx
  · exact (h j j0 j1).2
/-- the capacities without a node -/
def woC (σ : Mem) (v i : Int) : Int → Int := fun j => if j < i ∧ (σ (0, 2) j = v ∨ σ (0, 3) j = v) then 0 else σ (6, 2) j
theorem wo_le {σ : Mem} (h : capOk σ) {v i : Int} : ∀ j, 0 ≤ j → j < 80 → woC σ v i j ≤ 1000000 := fun j j0 j1 => by
  unfold woC
  split
  · decide
  · exact (h j j0 j1).2
theorem wo_0 {σ υ : Mem} {v s t : Int} (h : trP σ υ (σ (6, 2)) s t) : trP σ υ (woC σ v 0) s t := tr_eq h fun j j0 j1 => (if_neg (fun q => by omega)).symm
theorem wo_y {σ υ τ : Mem} {v s t i : Int} (h : trP σ υ (woC σ v i) s t) (hv : σ (0, 2) i = v ∨ σ (0, 3) i = v) (k : ccP υ τ 1 i 0) : trP σ τ (woC σ v (i + 1)) s t := tr_eq (tr_cc h k) fun j j0 j1 => by
  unfold updC woC
  by_cases e : j = i
  · rw [if_pos e, if_pos ⟨by omega, by rw [e]; exact hv⟩]
  · rw [if_neg e]
    by_cases g : j < i
    · simp only [g, show j < i + 1 by omega, true_and]
    · rw [if_neg (fun q => g q.1), if_neg (fun q => by omega)]
theorem wo_n {σ υ : Mem} {v s t i : Int} (h : trP σ υ (woC σ v i) s t) (hv : ¬ (σ (0, 2) i = v ∨ σ (0, 3) i = v)) : trP σ υ (woC σ v (i + 1)) s t := tr_eq h fun j j0 j1 => by
  unfold woC
  by_cases e : j = i
  · rw [if_neg (fun q => by omega), if_neg (fun q => by rw [e] at q; exact hv q.2)]
  · by_cases g : j < i
    · simp only [g, show j < i + 1 by omega, true_and]
    · rw [if_neg (fun q => g q.1), if_neg (fun q => by omega)]
theorem ends_of {σ : Mem} (h : endsYes σ 0) : (0 ≤ σ (6, 8) 0 ∧ σ (6, 8) 0 < σ (0, 0) 0) ∧ (0 ≤ σ (6, 9) 0 ∧ σ (6, 9) 0 < σ (0, 0) 0) ∧ σ (6, 8) 0 ≠ σ (6, 9) 0 := h
/-- after settling -/
theorem st_keep {σ τ : Mem} (hf : fnOk σ) (h : stP σ τ 0) : fnOk τ ∧ keepQ σ τ := ⟨(keepQ.fr0 h.2.2).ok hf h.1, keepQ.fr0 h.2.2⟩
theorem st_mc {σ τ : Mem} (h : stP σ τ 0) {X : Int → Bool} (h1 : X (σ (6, 8) 0) = true) (h2 : ¬ X (σ (6, 9) 0) = true) : clo τ 0 X ↔ mcS σ X := by
  obtain ⟨F, hF0, hV⟩ := h.1.2.2.1
  have hs := (h.1.2.2.2.2.2.1 h.2.1).2
  have e1 : τ (0, 1) = σ (0, 1) := h.2.2.of 0 1
  have e2 : τ (0, 2) = σ (0, 2) := h.2.2.of 0 2
  have e3 : τ (0, 3) = σ (0, 3) := h.2.2.of 0 3
  have e4 : τ (6, 2) = σ (6, 2) := h.2.2.own 2
  have e8 : τ (6, 8) = σ (6, 8) := h.2.2.own 8
  have e9 : τ (6, 9) = σ (6, 9) := h.2.2.own 9
  have key : X (τ (6, 8) 0) = true → ¬ X (τ (6, 9) 0) = true → (clo τ 0 X ↔ mcut (τ (0, 1) 0).toNat (τ (0, 2)) (τ (0, 3)) (τ (6, 2)) (τ (6, 8) 0) (τ (6, 9) 0) X) := fun a b => mc_iff h.1.1.1 h.1.1.2.2 hV hs a b
  rw [e1, e2, e3, e4, e8, e9] at key
  exact key h1 h2
theorem st_shut {σ τ : Mem} (h : stP σ τ 0) : ∃ X : Int → Bool, X (σ (6, 8) 0) = true ∧ ¬ X (σ (6, 9) 0) = true ∧ clo τ 0 X := by
  have hs : shut τ 0 := (h.1.2.2.2.2.2.1 h.2.1).2
  have e8 : τ (6, 8) = σ (6, 8) := h.2.2.own 8
  have e9 : τ (6, 9) = σ (6, 9) := h.2.2.own 9
  obtain ⟨X, a, b, c⟩ := hs
  exact ⟨X, by rw [← e8]; exact a, by rw [← e9]; exact b, c⟩
/-- the smallest minimum cut, the greatest one -/
def smP (σ : Mem) (z : Int) : Prop := mk24 z ∧ ∀ v, 0 ≤ v → (bt z v = true ↔ ∀ X, mcS σ X → X v = true)
def gtP (σ : Mem) (z : Int) : Prop := mk24 z ∧ ∀ v, 0 ≤ v → (bt z v = true ↔ v < σ (0, 0) 0 ∧ ∃ X, mcS σ X ∧ X v = true)
theorem sm_no {σ τ : Mem} {z : Int} (hE : endsYes σ 0) (h : stP σ τ 0) (k : rcP τ 0 (σ (6, 8) 0) z) : ¬ bt z (σ (6, 9) 0) = true := by
  obtain ⟨S, s1, s2, s3⟩ := st_shut h
  exact fun q => s2 (k.2.2.2 S s3 s1 _ (ends_of hE).2.1.1 q)
theorem sm_of {σ τ : Mem} {z : Int} (hE : endsYes σ 0) (h : stP σ τ 0) (k : rcP τ 0 (σ (6, 8) 0) z) : smP σ z := by
  refine ⟨k.1, fun v hv => ⟨fun q X hX => ?_, fun q => ?_⟩⟩
  · exact k.2.2.2 X ((st_mc h hX.1 hX.2.1).mpr hX) hX.1 v hv q
  · exact q _ ((st_mc h k.2.1 (sm_no hE h k)).mp k.2.2.1)
theorem gt_of {σ τ : Mem} {z : Int} (hE : endsYes σ 0) (h : stP σ τ 0) (k : gmP τ 0 (σ (6, 9) 0) (σ (0, 0) 0) z) : gtP σ z := by
  refine ⟨k.1, fun v hv => ?_⟩
  rw [k.2 v hv]
  constructor
  · rintro ⟨h1, X, x1, x2, x3⟩
    obtain ⟨S, s1, s2, s3⟩ := st_shut h
    refine ⟨h1, fun w => S w || X w, ?_, ?_⟩
    · refine (st_mc h ?_ ?_).mp (clo_or s3 x1)
      · show (S _ || X _) = true
        rw [s1]; rfl
      · show ¬ (S _ || X _) = true
        rw [Bool.or_eq_true]
        rintro (q | q)
        · exact s2 q
        · exact x3 q
    · show (S _ || X _) = true
      rw [x2, Bool.or_true]
  · rintro ⟨h1, X, x1, x2⟩
    exact ⟨h1, X, (st_mc h x1.1 x1.2.1).mpr x1, x2, x1.2.1⟩
/-- an arc that every minimum cut has, one that some has -/
theorem lim_of {σ τ : Mem} {a z q : Int} (hE : endsYes σ 0) (h : stP σ τ 0) (ha : 0 ≤ a ∧ a < σ (0, 1) 0) (hN : NetOk σ) (k : rcP τ 0 (σ (6, 8) 0) z) (k2 : rcP τ 0 (σ (0, 3) a) q) : (bt z (σ (0, 2) a) = true ∧ bt q (σ (6, 9) 0) = true) ↔ ∀ X, mcS σ X → X (σ (0, 2) a) = true ∧ ¬ X (σ (0, 3) a) = true := by
  have hn := hN.2.2 a ha.1 ha.2
  have hs := (sm_of hE h k).2 _ hn.1.1
  constructor
  · rintro ⟨h1, h2⟩ X hX
    exact ⟨hs.mp h1 X hX, fun h3 => hX.2.1 (k2.2.2.2 X ((st_mc h hX.1 hX.2.1).mpr hX) h3 _ (ends_of hE).2.1.1 h2)⟩
  · intro h1
    refine ⟨hs.mpr fun X hX => (h1 X hX).1, ?_⟩
    by_cases e : bt q (σ (6, 9) 0) = true
    · exact e
    · obtain ⟨S, s1, s2, s3⟩ := st_shut h
      have := h1 (fun w => S w || bt q w) ((st_mc h (X := fun w => S w || bt q w) (b_l s1) (b_not s2 e)).mp (clo_or s3 k2.2.2.1))
      exact absurd (b_r k2.2.1) this.2
theorem bot_of {σ τ : Mem} {a z q : Int} (hE : endsYes σ 0) (h : stP σ τ 0) (ha : 0 ≤ a ∧ a < σ (0, 1) 0) (hN : NetOk σ) (k : rcP τ 0 (σ (6, 8) 0) z) (k2 : rcP τ 0 (σ (0, 2) a) q) : (¬ bt (oI z q) (σ (0, 3) a) = true ∧ ¬ bt (oI z q) (σ (6, 9) 0) = true) ↔ ∃ X, mcS σ X ∧ X (σ (0, 2) a) = true ∧ ¬ X (σ (0, 3) a) = true := by
  have hn := hN.2.2 a ha.1 ha.2
  rw [bt_o, bt_o]
  constructor
  · rintro ⟨h1, h2⟩
    exact ⟨fun w => bt z w || bt q w, (st_mc h (X := fun w => bt z w || bt q w) (b_l k.2.1) h2).mp (clo_or k.2.2.1 k2.2.2.1), b_r k2.2.1, h1⟩
  · rintro ⟨X, x1, x2, x3⟩
    have hc := (st_mc h x1.1 x1.2.1).mpr x1
    have i1 := k.2.2.2 X hc x1.1
    have i2 := k2.2.2.2 X hc x2
    exact ⟨b_not (fun g => x3 (i1 _ hn.2.1.1 g)) (fun g => x3 (i2 _ hn.2.1.1 g)), b_not (fun g => x1.2.1 (i1 _ (ends_of hE).2.1.1 g)) (fun g => x1.2.1 (i2 _ (ends_of hE).2.1.1 g))⟩
/-! what a change keeps -/
def keepC (σ τ : Mem) (c : Int → Int) : Prop := (∀ g k : Nat, g < 6 → τ (g, k) = σ (g, k)) ∧ τ (6, 2) = c ∧ τ (6, 8) = σ (6, 8) ∧ τ (6, 9) = σ (6, 9)
theorem keepC.ok {σ τ : Mem} {c : Int → Int} (k : keepC σ τ c) (h : fnOk σ) (hm : mfOk τ 0) (hc : ∀ a, 0 ≤ a → a < 80 → 0 ≤ c a ∧ c a ≤ 1000000) : fnOk τ := by
  refine ⟨hm, ?_, ?_, ?_⟩
  · unfold capOk
    rw [k.2.1]
    exact hc
  · have := h.2.2.1
    unfold lvOk at this ⊢
    have e : ∀ v : Nat, τ (2, v) = σ (2, v) := fun v => k.1 2 v (by decide)
    simp only [k.1 3 0 (by decide), k.1 3 1 (by decide), k.1 3 2 (by decide), k.1 0 0 (by decide), e]
    exact this
  · have := h.2.2.2
    unfold cuOk at this ⊢
    rw [k.1 3 4 (by decide)]
    exact this
theorem cc_keep {σ τ : Mem} {a c : Int} (hf : fnOk σ) (h : ccP σ τ 0 a c) (hc : 0 ≤ c ∧ c ≤ 1000000) : fnOk τ ∧ keepC σ τ (updC (σ (6, 2)) a c) := by
  have k : keepC σ τ (updC (σ (6, 2)) a c) := ⟨fun g q hg => h.2.1.1 g q (Or.inl (by omega)), funext h.2.2, h.2.1.own 8, h.2.1.own 9⟩
  refine ⟨k.ok hf h.1 fun j j0 j1 => ?_, k⟩
  unfold updC
  split
  · exact hc
  · exact hf.2.1 j j0 j1




set_option maxHeartbeats 4000000 in
set_option maxRecDepth 100000 in
theorem c_X6_setCapacity (l : Launch) (D : va_G) (cs : Nat → ClassId) (ad : Ix → Nat) (hap : Apart idsF ad) (hl : l.stackTraces = false) {σ : Mem} (h : fnOk σ) {a c : Int} (ha : rg a) (hc : rg c) (sz : Nat) : CXI l D cs idsF ad yX6_setCapacity cX6_setCapacity 4 .int 7 8 48 sz [(.ref (ad (3, 7))), (jI a), (jI c)] σ (fun z τ => fnOk τ ∧ keepC σ τ (updC (σ (6, 2)) a c) ∧ (0 ≤ a ∧ a < σ (0, 1) 0) ∧ (0 ≤ c ∧ c ≤ 1000000) ∧ z = σ (6, 2) a) ((fun E => (E = IOB ∧ ¬ (0 ≤ a ∧ a < σ (0, 1) 0)) ∨ ((0 ≤ a ∧ a < σ (0, 1) 0) ∧ E = IAE ∧ ¬ (0 ≤ c ∧ c ≤ 1000000)))) := by
  refine CXI.of RX6 hl hap idsF_nd (by decide) rfl (Nat.le_of_ble_eq_true rfl) ?_
  intro pg ev s0 mi av bl mt cd X K T hr
  have hN := h.net
  have hn := hN.1
  have hm := hN.2.1
  refine zr_aloadn X dX6_setCapacity_0 rfl ?_
  refine zr_iloadn X dX6_setCapacity_1 rfl ?_
  refine zr_xcallVV X K T (q := (RX6, TX6, 5)) (st := []) (fun sz => c_X6_requireArc l D cs ad hap hl (σ := σ) hN (v := a) ha sz) ⟨tw_199, tw_201, tp_0, tw_1, tw_202⟩ dc_X6_requireArc mF_3_7 rfl rfl rfl rfl rfl (Nat.le_of_ble_eq_true rfl) (by decide) dX6_setCapacity_2 ⟨by decide, by decide⟩ (fun E h => Or.inl h) ?_
  intro τ_ hp_
  obtain ⟨hτ_, hA⟩ := hp_
  subst τ_
  refine zr_iloadn X dX6_setCapacity_5 rfl ?_
  refine zr_xcallSV X K T (st := []) (fun sz => c_X6_requireCapacity l D cs ad hap hl (σ := σ) (v := c) hc sz) ⟨tw_271, tw_272, tw_1, tw_273⟩ dc_X6_requireCapacity rfl rfl (Nat.le_of_ble_eq_true rfl) (by decide) dX6_setCapacity_6 ⟨by decide, by decide⟩ (fun E h => Or.inr ⟨hA, h⟩) ?_
  intro τ_ hp_
  obtain ⟨hτ_, hC⟩ := hp_
  subst τ_
  refine zr_aloadn X dX6_setCapacity_9 rfl ?_
  refine zr_get X K (C := RX6) (T := TX6) (N := 5) (k := 1) mF_3_7 rfl rfl ti_6 (by decide) rfl tw_180 rfl dX6_setCapacity_10 ?_
  refine zr_getN X K (v := (.ref (ad (6, 1)))) (C := RX3) (T := TX3) (N := 6) (k := 1) mF_6_0 rfl rfl ti_3 (by decide) rfl tn_124 rfl dX6_setCapacity_13 ?_
  refine zr_getN X K (v := (.ref (ad (6, 2)))) (C := RX1) (T := TX1) (N := 3) (k := 1) mF_6_1 rfl rfl ti_1 (by decide) rfl tn_82 rfl dX6_setCapacity_16 ?_
  refine zr_iloadn X dX6_setCapacity_19 rfl ?_
  refine zr_iald X K (n := 80) mF_6_2 rfl (by decide) (by omega) dX6_setCapacity_20 ?_
  refine zr_istoren X dX6_setCapacity_21 (by decide) rfl ?_
  refine zr_aloadn X dX6_setCapacity_22 rfl ?_
  refine zr_get X K (C := RX6) (T := TX6) (N := 5) (k := 1) mF_3_7 rfl rfl ti_6 (by decide) rfl tw_180 rfl dX6_setCapacity_23 ?_
  refine zr_iloadn X dX6_setCapacity_26 rfl ?_
  refine zr_iloadn X dX6_setCapacity_27 rfl ?_
  refine zr_callNV X K (q := (RX3, TX3, 6)) (st := []) (c_X3_changeCapacity l D cs ad hap (b := 0) (by decide) (σ := σ) h.1 (a := a) (c := c) hA ⟨hC.1, by omega⟩) ⟨tn_291, tw_293, tp_2, tw_3, tw_294⟩ dc_X3_changeCapacity mF_6_0 rfl rfl rfl rfl rfl (Nat.le_of_ble_eq_true rfl) (by decide) dX6_setCapacity_28 ?_
  intro τ hcc
  refine zr_iloadn X dX6_setCapacity_31 rfl ?_
  refine zr_xiret X ⟨by decide, by decide⟩ hr dX6_setCapacity_32 ?_
  have hk := cc_keep h hcc hC
  exact ⟨hk.1, hk.2, hA, hC, rfl⟩

set_option maxHeartbeats 4000000 in
set_option maxRecDepth 100000 in
theorem c_X6_maximum (l : Launch) (D : va_G) (cs : Nat → ClassId) (ad : Ix → Nat) (hap : Apart idsF ad) (hl : l.stackTraces = false) {σ : Mem} (h : fnOk σ) (sz : Nat) : CXI l D cs idsF ad yX6_maximum cX6_maximum 1 .int 7 8 48 sz [(.ref (ad (3, 7)))] σ (fun z τ => fnOk τ ∧ keepQ σ τ ∧ endsYes σ 0 ∧ mnS σ (σ (6, 2)) (σ (6, 8) 0) (σ (6, 9) 0) z) ((fun E => E = ISE ∧ endsNo σ 0)) := by
  refine CXI.of RX6 hl hap idsF_nd (by decide) rfl (Nat.le_of_ble_eq_true rfl) ?_
  intro pg ev s0 mi av bl mt cd X K T hr
  have hN := h.net
  have hn := hN.1
  have hm := hN.2.1
  refine zr_aloadn X dX6_maximum_0 rfl ?_
  refine zr_xcallVV X K T (q := (RX6, TX6, 5)) (st := []) (fun sz => c_X6_requireEnds l D cs ad hap hl (σ := σ) hN h.ends sz) ⟨tw_382, tw_384, tp_16, tw_1, tw_385⟩ dc_X6_requireEnds mF_3_7 rfl rfl rfl rfl rfl (Nat.le_of_ble_eq_true rfl) (by decide) dX6_maximum_1 ⟨by decide, by decide⟩ (fun E h => h) ?_
  intro τ_ hp_
  obtain ⟨hτ_, hEy⟩ := hp_
  subst τ_
  refine zr_aloadn X dX6_maximum_4 rfl ?_
  refine zr_get X K (C := RX6) (T := TX6) (N := 5) (k := 1) mF_3_7 rfl rfl ti_6 (by decide) rfl tw_180 rfl dX6_maximum_5 ?_
  refine zr_callNI X K (q := (RX3, TX3, 6)) (st := []) (c_X3_greatestValue l D cs ad hap (b := 0) (by decide) (σ := σ) h.1 hEy (cut_0 h hEy)) ⟨tn_406, tw_408, tp_18, tw_3, tw_409⟩ dc_X3_greatestValue mF_6_0 rfl rfl rfl rfl rfl (Nat.le_of_ble_eq_true rfl) (by decide) dX6_maximum_8 ?_
  intro z τ hgv
  refine zr_xiret X ⟨by decide, by decide⟩ hr dX6_maximum_11 ?_
  have hk := st_keep h hgv.1
  exact ⟨hk.1, hk.2, hEy, isMn_of hgv.2.2⟩

set_option maxHeartbeats 4000000 in
set_option maxRecDepth 100000 in
theorem c_X6_maximumWith (l : Launch) (D : va_G) (cs : Nat → ClassId) (ad : Ix → Nat) (hap : Apart idsF ad) (hl : l.stackTraces = false) {σ : Mem} (h : fnOk σ) {a c : Int} (ha : rg a) (hc : rg c) (sz : Nat) : CXI l D cs idsF ad yX6_maximumWith cX6_maximumWith 3 .int 7 8 48 sz [(.ref (ad (3, 7))), (jI a), (jI c)] σ (fun z τ => fnOk τ ∧ keepQ σ τ ∧ endsYes σ 0 ∧ (0 ≤ a ∧ a < σ (0, 1) 0) ∧ (0 ≤ c ∧ c ≤ 1000000) ∧ mnS σ (updC (σ (6, 2)) a c) (σ (6, 8) 0) (σ (6, 9) 0) z) ((fun E => (E = ISE ∧ endsNo σ 0) ∨ (endsYes σ 0 ∧ E = IOB ∧ ¬ (0 ≤ a ∧ a < σ (0, 1) 0)) ∨ (endsYes σ 0 ∧ (0 ≤ a ∧ a < σ (0, 1) 0) ∧ E = IAE ∧ ¬ (0 ≤ c ∧ c ≤ 1000000)))) := by
  refine CXI.of RX6 hl hap idsF_nd (by decide) rfl (Nat.le_of_ble_eq_true rfl) ?_
  intro pg ev s0 mi av bl mt cd X K T hr
  have hN := h.net
  have hn := hN.1
  have hm := hN.2.1
  refine zr_aloadn X dX6_maximumWith_0 rfl ?_
  refine zr_xcallVV X K T (q := (RX6, TX6, 5)) (st := []) (fun sz => c_X6_requireEnds l D cs ad hap hl (σ := σ) hN h.ends sz) ⟨tw_382, tw_384, tp_16, tw_1, tw_385⟩ dc_X6_requireEnds mF_3_7 rfl rfl rfl rfl rfl (Nat.le_of_ble_eq_true rfl) (by decide) dX6_maximumWith_1 ⟨by decide, by decide⟩ (fun E h => Or.inl h) ?_
  intro τ_ hp_
  obtain ⟨hτ_, hEy⟩ := hp_
  subst τ_
  refine zr_aloadn X dX6_maximumWith_4 rfl ?_
  refine zr_iloadn X dX6_maximumWith_5 rfl ?_
  refine zr_xcallVV X K T (q := (RX6, TX6, 5)) (st := []) (fun sz => c_X6_requireArc l D cs ad hap hl (σ := σ) hN (v := a) ha sz) ⟨tw_199, tw_201, tp_0, tw_1, tw_202⟩ dc_X6_requireArc mF_3_7 rfl rfl rfl rfl rfl (Nat.le_of_ble_eq_true rfl) (by decide) dX6_maximumWith_6 ⟨by decide, by decide⟩ (fun E h => Or.inr (Or.inl ⟨hEy, h⟩)) ?_
  intro τ_ hp_
  obtain ⟨hτ_, hA⟩ := hp_
  subst τ_
  refine zr_iloadn X dX6_maximumWith_9 rfl ?_
  refine zr_xcallSV X K T (st := []) (fun sz => c_X6_requireCapacity l D cs ad hap hl (σ := σ) (v := c) hc sz) ⟨tw_271, tw_272, tw_1, tw_273⟩ dc_X6_requireCapacity rfl rfl (Nat.le_of_ble_eq_true rfl) (by decide) dX6_maximumWith_10 ⟨by decide, by decide⟩ (fun E h => Or.inr (Or.inr ⟨hEy, hA, h⟩)) ?_
  intro τ_ hp_
  obtain ⟨hτ_, hC⟩ := hp_
  subst τ_
  refine zr_aloadn X dX6_maximumWith_13 rfl ?_
  refine zr_get X K (C := RX6) (T := TX6) (N := 5) (k := 2) mF_3_7 rfl rfl ti_6 (by decide) rfl tw_181 rfl dX6_maximumWith_14 ?_
  refine zr_aloadn X dX6_maximumWith_17 rfl ?_
  refine zr_get X K (C := RX6) (T := TX6) (N := 5) (k := 1) mF_3_7 rfl rfl ti_6 (by decide) rfl tw_180 rfl dX6_maximumWith_18 ?_
  refine zr_callNV X K (q := (RX3, TX3, 6)) (st := []) (c_X3_copy l D cs ad hap (σ := σ) h.1) ⟨tn_419, tw_421, tp_20, tw_3, tw_422⟩ dc_X3_copy mF_7_0 rfl rfl rfl rfl rfl (Nat.le_of_ble_eq_true rfl) (by decide) dX6_maximumWith_21 ?_
  intro υ hcp
  have ht0 := tr_cp hcp
  refine zr_aloadn X dX6_maximumWith_24 rfl ?_
  refine zr_get X K (C := RX6) (T := TX6) (N := 5) (k := 2) mF_3_7 rfl rfl ti_6 (by decide) rfl tw_181 rfl dX6_maximumWith_25 ?_
  refine zr_iloadn X dX6_maximumWith_28 rfl ?_
  refine zr_iloadn X dX6_maximumWith_29 rfl ?_
  refine zr_callNV X K (q := (RX3, TX3, 6)) (st := []) (c_X3_changeCapacity l D cs ad hap (b := 1) (by decide) (σ := υ) ht0.1 (a := a) (c := c) (by rw [ht0.2.1 0 1 (by decide)]; exact hA) ⟨hC.1, by omega⟩) ⟨tn_291, tw_293, tp_2, tw_3, tw_294⟩ dc_X3_changeCapacity mF_7_0 rfl rfl rfl rfl rfl (Nat.le_of_ble_eq_true rfl) (by decide) dX6_maximumWith_30 ?_
  intro ω hcc
  have ht1 := tr_cc ht0 hcc
  have hEt := tr_ey ht1 (ends_of hEy).1 (ends_of hEy).2.1 (ends_of hEy).2.2
  have hct := tr_c8 ht1 hEt (cap_upd h.2.1 hC.2)
  refine zr_aloadn X dX6_maximumWith_33 rfl ?_
  refine zr_get X K (C := RX6) (T := TX6) (N := 5) (k := 2) mF_3_7 rfl rfl ti_6 (by decide) rfl tw_181 rfl dX6_maximumWith_34 ?_
  refine zr_callNI X K (q := (RX3, TX3, 6)) (st := []) (c_X3_greatestValue l D cs ad hap (b := 1) (by decide) (σ := ω) ht1.1 hEt hct) ⟨tn_406, tw_408, tp_18, tw_3, tw_409⟩ dc_X3_greatestValue mF_7_0 rfl rfl rfl rfl rfl (Nat.le_of_ble_eq_true rfl) (by decide) dX6_maximumWith_37 ?_
  intro z τ hgv
  refine zr_xiret X ⟨by decide, by decide⟩ hr dX6_maximumWith_40 ?_
  have hk := tr_gv ht1 h hgv
  exact ⟨hk.1, hk.2.1, hEy, hA, hC, hk.2.2⟩


set_option maxHeartbeats 4000000 in
set_option maxRecDepth 100000 in
theorem c_X6_maximumBetween (l : Launch) (D : va_G) (cs : Nat → ClassId) (ad : Ix → Nat) (hap : Apart idsF ad) (hl : l.stackTraces = false) {σ : Mem} (h : fnOk σ) {s t : Int} (hs : rg s) (ht : rg t) (sz : Nat) : CXI l D cs idsF ad yX6_maximumBetween cX6_maximumBetween 3 .int 7 8 48 sz [(.ref (ad (3, 7))), (jI s), (jI t)] σ (fun z τ => fnOk τ ∧ keepQ σ τ ∧ ((0 ≤ s ∧ s < σ (0, 0) 0) ∧ (0 ≤ t ∧ t < σ (0, 0) 0) ∧ s ≠ t) ∧ mnS σ (σ (6, 2)) s t z) ((fun E => (E = IOB ∧ ¬ ((0 ≤ s ∧ s < σ (0, 0) 0) ∧ (0 ≤ t ∧ t < σ (0, 0) 0))) ∨ ((0 ≤ s ∧ s < σ (0, 0) 0) ∧ (0 ≤ t ∧ t < σ (0, 0) 0) ∧ E = IAE ∧ s = t))) := by
  refine CXI.of RX6 hl hap idsF_nd (by decide) rfl (Nat.le_of_ble_eq_true rfl) ?_
  intro pg ev s0 mi av bl mt cd X K T hr
  have hN := h.net
  have hn := hN.1
  have hm := hN.2.1
  refine zr_aloadn X dX6_maximumBetween_0 rfl ?_
  refine zr_iloadn X dX6_maximumBetween_1 rfl ?_
  refine zr_xcallVV X K T (q := (RX6, TX6, 5)) (st := []) (fun sz => c_X6_requireNode l D cs ad hap hl (σ := σ) hN (v := s) hs sz) ⟨tw_350, tw_352, tp_14, tw_1, tw_353⟩ dc_X6_requireNode mF_3_7 rfl rfl rfl rfl rfl (Nat.le_of_ble_eq_true rfl) (by decide) dX6_maximumBetween_2 ⟨by decide, by decide⟩ (fun E h => Or.inl ⟨h.1, fun q => h.2 q.1⟩) ?_
  intro τ_ hp_
  obtain ⟨hτ_, hS⟩ := hp_
  subst τ_
  refine zr_aloadn X dX6_maximumBetween_5 rfl ?_
  refine zr_iloadn X dX6_maximumBetween_6 rfl ?_
  refine zr_xcallVV X K T (q := (RX6, TX6, 5)) (st := []) (fun sz => c_X6_requireNode l D cs ad hap hl (σ := σ) hN (v := t) ht sz) ⟨tw_350, tw_352, tp_14, tw_1, tw_353⟩ dc_X6_requireNode mF_3_7 rfl rfl rfl rfl rfl (Nat.le_of_ble_eq_true rfl) (by decide) dX6_maximumBetween_7 ⟨by decide, by decide⟩ (fun E h => Or.inl ⟨h.1, fun q => h.2 q.2⟩) ?_
  intro τ_ hp_
  obtain ⟨hτ_, hT⟩ := hp_
  subst τ_
  refine zr_iloadn X dX6_maximumBetween_10 rfl ?_
  refine zr_iloadn X dX6_maximumBetween_11 rfl ?_
  refine zr_xcallSV X K T (st := []) (fun sz => c_X6_requireDifferent l D cs ad hap hl (σ := σ) (v := s) (w := t) hs ht sz) ⟨tw_369, tw_370, tw_1, tw_371⟩ dc_X6_requireDifferent rfl rfl (Nat.le_of_ble_eq_true rfl) (by decide) dX6_maximumBetween_12 ⟨by decide, by decide⟩ (fun E h => Or.inr ⟨hS, hT, h⟩) ?_
  intro τ_ hp_
  obtain ⟨hτ_, hD⟩ := hp_
  subst τ_
  refine zr_aloadn X dX6_maximumBetween_15 rfl ?_
  refine zr_get X K (C := RX6) (T := TX6) (N := 5) (k := 2) mF_3_7 rfl rfl ti_6 (by decide) rfl tw_181 rfl dX6_maximumBetween_16 ?_
  refine zr_aloadn X dX6_maximumBetween_19 rfl ?_
  refine zr_get X K (C := RX6) (T := TX6) (N := 5) (k := 1) mF_3_7 rfl rfl ti_6 (by decide) rfl tw_180 rfl dX6_maximumBetween_20 ?_
  refine zr_callNV X K (q := (RX3, TX3, 6)) (st := []) (c_X3_copy l D cs ad hap (σ := σ) h.1) ⟨tn_419, tw_421, tp_20, tw_3, tw_422⟩ dc_X3_copy mF_7_0 rfl rfl rfl rfl rfl (Nat.le_of_ble_eq_true rfl) (by decide) dX6_maximumBetween_23 ?_
  intro υ hcp
  have ht0 := tr_cp hcp
  refine zr_aloadn X dX6_maximumBetween_26 rfl ?_
  refine zr_get X K (C := RX6) (T := TX6) (N := 5) (k := 2) mF_3_7 rfl rfl ti_6 (by decide) rfl tw_181 rfl dX6_maximumBetween_27 ?_
  refine zr_iloadn X dX6_maximumBetween_30 rfl ?_
  refine zr_iloadn X dX6_maximumBetween_31 rfl ?_
  refine zr_callNI X K (q := (RX3, TX3, 6)) (st := []) (c_X3_chooseEnds l D cs ad hap (b := 1) (by decide) (σ := υ) ht0.1 (s := s) (t := t) (Or.inr (by rw [ht0.2.1 0 0 (by decide)]; exact ⟨hS, hT, hD⟩))) ⟨tn_373, tw_375, tp_15, tw_3, tw_376⟩ dc_X3_chooseEnds mF_7_0 rfl rfl rfl rfl rfl (Nat.le_of_ble_eq_true rfl) (by decide) dX6_maximumBetween_32 ?_
  intro y ω hce
  have ht1 := tr_ce ht0 hce
  have hEt := tr_ey ht1 hS hT hD
  have hct := tr_c8 ht1 hEt (fun j j0 j1 => (h.2.1 j j0 j1).2)
  refine zr_pop X dX6_maximumBetween_35 rfl ?_
  refine zr_aloadn X dX6_maximumBetween_36 rfl ?_
  refine zr_get X K (C := RX6) (T := TX6) (N := 5) (k := 2) mF_3_7 rfl rfl ti_6 (by decide) rfl tw_181 rfl dX6_maximumBetween_37 ?_
  refine zr_callNI X K (q := (RX3, TX3, 6)) (st := []) (c_X3_greatestValue l D cs ad hap (b := 1) (by decide) (σ := ω) ht1.1 hEt hct) ⟨tn_406, tw_408, tp_18, tw_3, tw_409⟩ dc_X3_greatestValue mF_7_0 rfl rfl rfl rfl rfl (Nat.le_of_ble_eq_true rfl) (by decide) dX6_maximumBetween_40 ?_
  intro z τ hgv
  refine zr_xiret X ⟨by decide, by decide⟩ hr dX6_maximumBetween_43 ?_
  have hk := tr_gv ht1 h hgv
  exact ⟨hk.1, hk.2.1, ⟨hS, hT, hD⟩, hk.2.2⟩
end
section
/-! THE CLASS: cuts, ends -/
theorem pI_le {v : Int} (h : 0 ≤ v ∧ v ≤ 24) : 1 ≤ pI v ∧ pI v ≤ 16777216 := by
  have h1 : 2 ^ v.toNat ≤ 2 ^ 24 := Nat.pow_le_pow_right (by decide) (by omega)
  have h2 : 0 < 2 ^ v.toNat := Nat.pow_pos (by decide)
  have h3 : (2 : Nat) ^ 24 = 16777216 := by decide
  unfold pI
  omega
theorem andN_0 {m v : Int} (hm : rg m) (hv : 0 ≤ v ∧ v ≤ 24) : (iI m &&& (iI (pI v - 1) ^^^ iI (-1))).toInt = 0 ↔ 0 ≤ m ∧ m < pI v := by
  have hp := pI_le hv
  have h0 : ∀ x : Int32, x.toInt = 0 ↔ x.toBitVec.toNat = 0 := fun x => by
    constructor
    · intro h
      have : x = 0 := Int32.toInt_inj.mp h
      rw [this]; rfl
    · intro h
      have : x = 0 := Int32.toBitVec_inj.mp (BitVec.eq_of_toNat_eq (by rw [h]; rfl))
      rw [this]; rfl
  rw [h0]
  have hM : (iI m).toBitVec.toNat = (m % 4294967296).toNat := by
    show (BitVec.ofInt 32 m).toNat = _
    rw [BitVec.toNat_ofInt]
    rfl
  have hK : (iI (pI v - 1) ^^^ iI (-1)).toBitVec.toNat = 2 ^ 32 - 1 - (2 ^ v.toNat - 1) := by
    have e1 : (iI (pI v - 1) ^^^ iI (-1)).toBitVec = ~~~ (BitVec.ofInt 32 (pI v - 1)) := by
      show BitVec.ofInt 32 (pI v - 1) ^^^ BitVec.ofInt 32 (-1) = _
      rw [show BitVec.ofInt 32 (-1) = BitVec.allOnes 32 by decide, BitVec.xor_allOnes]
    rw [e1, BitVec.toNat_not, BitVec.toNat_ofInt]
    have : ((pI v - 1) % ((2 ^ 32 : Nat) : Int)).toNat = 2 ^ v.toNat - 1 := by
      rw [Int.emod_eq_of_lt (by omega) (by have : ((2 ^ 32 : Nat) : Int) = 4294967296 := by decide
                                           omega)]
      unfold pI
      omega
    rw [this]
  have hb : ∀ i, ((iI m &&& (iI (pI v - 1) ^^^ iI (-1))).toBitVec.toNat).testBit i = ((m % 4294967296).toNat.testBit i && decide (v.toNat ≤ i ∧ i < 32)) := fun i => by
    have e : (iI m &&& (iI (pI v - 1) ^^^ iI (-1))).toBitVec.toNat = (iI m).toBitVec.toNat &&& (iI (pI v - 1) ^^^ iI (-1)).toBitVec.toNat := rfl
    rw [e, hM, hK, Nat.testBit_and]
    congr 1
    have hlt : 2 ^ v.toNat - 1 < 2 ^ 32 := by
      have : 2 ^ v.toNat ≤ 2 ^ 24 := Nat.pow_le_pow_right (by decide) (by omega)
      omega
    rw [show 2 ^ 32 - 1 - (2 ^ v.toNat - 1) = 2 ^ 32 - (2 ^ v.toNat - 1 + 1) by omega, Nat.testBit_two_pow_sub_succ hlt, Nat.testBit_two_pow_sub_one]
    by_cases h1 : i < 32 <;> by_cases h2 : i < v.toNat <;> simp [h1, h2] <;> omega
  have h32 : (m % 4294967296).toNat < 2 ^ 32 := by
    have : (2 : Nat) ^ 32 = 4294967296 := by decide
    omega
  constructor
  · intro h
    have h2 : (m % 4294967296).toNat < 2 ^ v.toNat := by
      refine Nat.lt_pow_two_of_testBit _ fun i hi => ?_
      have := hb i
      rw [h, Nat.zero_testBit] at this
      by_cases h3 : i < 32
      · rw [decide_eq_true (⟨hi, h3⟩ : v.toNat ≤ i ∧ i < 32), Bool.and_true] at this
        exact this.symm
      · exact Nat.testBit_lt_two_pow (Nat.lt_of_lt_of_le h32 (Nat.pow_le_pow_right (by decide) (by omega)))
    have h4 : 2 ^ v.toNat ≤ 2 ^ 24 := Nat.pow_le_pow_right (by decide) (by omega)
    have h5 : (2 : Nat) ^ 24 = 16777216 := by decide
    obtain ⟨g1, g2⟩ := hm
    unfold pI
    omega
  · intro h
    refine Nat.eq_of_testBit_eq fun i => ?_
    rw [hb, Nat.zero_testBit]
    have e : (m % 4294967296).toNat < 2 ^ v.toNat := by
      have h5 := h.2
      unfold pI at h5
      omega
    by_cases h3 : v.toNat ≤ i
    · rw [Nat.testBit_lt_two_pow (Nat.lt_of_lt_of_le e (Nat.pow_le_pow_right (by decide) h3)), Bool.false_and]
    · rw [decide_eq_false (fun q => h3 q.1), Bool.and_false]
theorem keepQ.mn {σ τ : Mem} (k : keepQ σ τ) {c : Int → Int} {s t v : Int} (h : mnS τ c s t v) : mnS σ c s t v := by
  have e1 : τ (0, 1) = σ (0, 1) := k.1 0 1 (by decide)
  have e2 : τ (0, 2) = σ (0, 2) := k.1 0 2 (by decide)
  have e3 : τ (0, 3) = σ (0, 3) := k.1 0 3 (by decide)
  unfold mnS at h ⊢
  rw [← e1, ← e2, ← e3]
  exact h
/-- with one arc that can carry all, there is still a cut -/
theorem tr_c8h {σ υ : Mem} {a s t : Int} (h : trP σ υ (updC (σ (6, 2)) a 100000000) s t) (hc : capOk σ) (hst : s ≠ t) (hn : ¬ (σ (0, 2) a = s ∧ σ (0, 3) a = t)) : cut8 υ 1 := by
  have hm := h.1.1.1.2.1
  have e2 : υ (0, 2) = σ (0, 2) := h.2.1 0 2 (by decide)
  have e3 : υ (0, 3) = σ (0, 3) := h.2.1 0 3 (by decide)
  have key : ∀ X : Int → Bool, (X (σ (0, 2) a) = true ∧ ¬ X (σ (0, 3) a) = true → False) → cpo υ 1 X < 100000000 := fun X hX => by
    have : cpo υ 1 X ≤ 80000000 := sm_80 (by omega) fun j j0 j1 => by
      show (if X (υ (0, 2) j) = true ∧ ¬ X (υ (0, 3) j) = true then υ (7, 2) j else 0) ≤ (1000000 : Int)
      rw [e2, e3, h.2.2.1 j j0 (by omega)]
      by_cases e : j = a
      · rw [if_neg (by rw [e]; exact hX)]
        decide
      · rw [show updC (σ (6, 2)) a 100000000 j = σ (6, 2) j from if_neg e]
        have := hc j j0 (by omega)
        split
        · exact this.2
        · decide
    omega
  by_cases q : σ (0, 2) a = s
  · refine ⟨fun v => decide (v ≠ t), ?_, ?_, key _ ?_⟩
    · show decide (υ (7, 8) 0 ≠ t) = true
      rw [h.2.2.2.1]
      exact decide_eq_true hst
    · show ¬ decide (υ (7, 9) 0 ≠ t) = true
      rw [h.2.2.2.2]
      exact fun g => of_decide_eq_true g rfl
    · rintro ⟨-, g⟩
      exact g (decide_eq_true (fun e => hn ⟨q, e⟩))
  · refine ⟨fun v => decide (v = s), ?_, ?_, key _ ?_⟩
    · show decide (υ (7, 8) 0 = s) = true
      rw [h.2.2.2.1]
      exact decide_eq_true rfl
    · show ¬ decide (υ (7, 9) 0 = s) = true
      rw [h.2.2.2.2]
      exact fun g => hst (of_decide_eq_true g).symm
    · rintro ⟨g, -⟩
      exact q (of_decide_eq_true g)
theorem coF_gcp {σ : Mem} {q : Int} : sm (coF σ 0 q) (σ (0, 1) 0).toNat = gcp (σ (0, 1) 0).toNat (σ (0, 2)) (σ (0, 3)) (σ (6, 2)) (bt q) := sm_cong fun a a1 a2 => by
  show (if bt q (σ (0, 2) a) && !bt q (σ (0, 3) a) then σ (6, 2) a else 0) = if bt q (σ (0, 2) a) = true ∧ ¬ bt q (σ (0, 3) a) = true then σ (6, 2) a else 0
  by_cases h1 : bt q (σ (0, 2) a) = true <;> by_cases h2 : bt q (σ (0, 3) a) = true <;> simp [h1, h2]
/-- other ends -/
def keepE (σ τ : Mem) (s t : Int) : Prop := (∀ g k : Nat, g < 6 → τ (g, k) = σ (g, k)) ∧ τ (6, 2) = σ (6, 2) ∧ τ (6, 8) 0 = s ∧ τ (6, 9) 0 = t
theorem keepE.ok {σ τ : Mem} {s t : Int} (k : keepE σ τ s t) (h : fnOk σ) (hm : mfOk τ 0) : fnOk τ := by
  refine ⟨hm, ?_, ?_, ?_⟩
  · have := h.2.1
    unfold capOk at this ⊢
    rw [k.2.1]
    exact this
  · have := h.2.2.1
    unfold lvOk at this ⊢
    have e : ∀ v : Nat, τ (2, v) = σ (2, v) := fun v => k.1 2 v (by decide)
    simp only [k.1 3 0 (by decide), k.1 3 1 (by decide), k.1 3 2 (by decide), k.1 0 0 (by decide), e]
    exact this
  · have := h.2.2.2
    unfold cuOk at this ⊢
    rw [k.1 3 4 (by decide)]
    exact this
theorem ce_keep {σ τ : Mem} {s t z : Int} (hf : fnOk σ) (h : ceP σ τ 0 s t z) : fnOk τ ∧ keepE σ τ s t ∧ (z = 0 ∨ z = 1) ∧ (z = 1 ↔ ¬ (σ (6, 8) 0 = s ∧ σ (6, 9) 0 = t)) := by
  have k : keepE σ τ s t := ⟨fun g q hg => h.2.1 g q (Or.inl (by omega)), h.2.1 6 2 (Or.inr (by decide)), h.2.2.1.1, h.2.2.1.2⟩
  refine ⟨k.ok hf h.1, k, ?_, ?_⟩
  · rcases h.2.2.2 with q | q
    · exact Or.inl q.1
    · exact Or.inr q.1
  · rcases h.2.2.2 with ⟨q1, q2, q3, -⟩ | ⟨q1, q2⟩
    · exact ⟨fun e => by omega, fun e => absurd ⟨q2, q3⟩ e⟩
    · exact ⟨fun _ => q2, fun _ => q1⟩
def botS (σ : Mem) (a : Int) : Prop := σ (6, 2) a ≠ 0 ∧ ∃ X, mcS σ X ∧ X (σ (0, 2) a) = true ∧ ¬ X (σ (0, 3) a) = true
def limS (σ : Mem) (a : Int) : Prop := ∀ X, mcS σ X → X (σ (0, 2) a) = true ∧ ¬ X (σ (0, 3) a) = true
def cutS (σ : Mem) (m : Int) : Prop := (0 ≤ m ∧ m < pI (σ (0, 0) 0)) ∧ bt m (σ (6, 8) 0) = true ∧ ¬ bt m (σ (6, 9) 0) = true

theorem dc_X6_isCut : dcl yX6_isCut 1 := ⟨by decide, by decide, by decide +kernel⟩

set_option maxHeartbeats 4000000 in
set_option maxRecDepth 100000 in
theorem c_X6_setEnds (l : Launch) (D : va_G) (cs : Nat → ClassId) (ad : Ix → Nat) (hap : Apart idsF ad) (hl : l.stackTraces = false) {σ : Mem} (h : fnOk σ) {s t : Int} (hs : rg s) (ht : rg t) (sz : Nat) : CXI l D cs idsF ad yX6_setEnds cX6_setEnds 3 .boolean 7 8 48 sz [(.ref (ad (3, 7))), (jI s), (jI t)] σ (fun z τ => fnOk τ ∧ keepE σ τ s t ∧ ((0 ≤ s ∧ s < σ (0, 0) 0) ∧ (0 ≤ t ∧ t < σ (0, 0) 0) ∧ s ≠ t) ∧ (z = 0 ∨ z = 1) ∧ (z = 1 ↔ ¬ (σ (6, 8) 0 = s ∧ σ (6, 9) 0 = t))) ((fun E => (E = IOB ∧ ¬ ((0 ≤ s ∧ s < σ (0, 0) 0) ∧ (0 ≤ t ∧ t < σ (0, 0) 0))) ∨ ((0 ≤ s ∧ s < σ (0, 0) 0) ∧ (0 ≤ t ∧ t < σ (0, 0) 0) ∧ E = IAE ∧ s = t))) := by
  refine CXI.of RX6 hl hap idsF_nd (by decide) rfl (Nat.le_of_ble_eq_true rfl) ?_
  intro pg ev s0 mi av bl mt cd X K T hr
  have hN := h.net
  have hn := hN.1
  have hm := hN.2.1
  refine zr_aloadn X dX6_setEnds_0 rfl ?_
  refine zr_iloadn X dX6_setEnds_1 rfl ?_
  refine zr_xcallVV X K T (q := (RX6, TX6, 5)) (st := []) (fun sz => c_X6_requireNode l D cs ad hap hl (σ := σ) hN (v := s) hs sz) ⟨tw_350, tw_352, tp_14, tw_1, tw_353⟩ dc_X6_requireNode mF_3_7 rfl rfl rfl rfl rfl (Nat.le_of_ble_eq_true rfl) (by decide) dX6_setEnds_2 ⟨by decide, by decide⟩ (fun E h => Or.inl ⟨h.1, fun q => h.2 q.1⟩) ?_
  intro τ_ hp_
  obtain ⟨hτ_, hS⟩ := hp_
  subst τ_
  refine zr_aloadn X dX6_setEnds_5 rfl ?_
  refine zr_iloadn X dX6_setEnds_6 rfl ?_
  refine zr_xcallVV X K T (q := (RX6, TX6, 5)) (st := []) (fun sz => c_X6_requireNode l D cs ad hap hl (σ := σ) hN (v := t) ht sz) ⟨tw_350, tw_352, tp_14, tw_1, tw_353⟩ dc_X6_requireNode mF_3_7 rfl rfl rfl rfl rfl (Nat.le_of_ble_eq_true rfl) (by decide) dX6_setEnds_7 ⟨by decide, by decide⟩ (fun E h => Or.inl ⟨h.1, fun q => h.2 q.2⟩) ?_
  intro τ_ hp_
  obtain ⟨hτ_, hT⟩ := hp_
  subst τ_
  refine zr_iloadn X dX6_setEnds_10 rfl ?_
  refine zr_iloadn X dX6_setEnds_11 rfl ?_
  refine zr_xcallSV X K T (st := []) (fun sz => c_X6_requireDifferent l D cs ad hap hl (σ := σ) (v := s) (w := t) hs ht sz) ⟨tw_369, tw_370, tw_1, tw_371⟩ dc_X6_requireDifferent rfl rfl (Nat.le_of_ble_eq_true rfl) (by decide) dX6_setEnds_12 ⟨by decide, by decide⟩ (fun E h => Or.inr ⟨hS, hT, h⟩) ?_
  intro τ_ hp_
  obtain ⟨hτ_, hD⟩ := hp_
  subst τ_
  refine zr_aloadn X dX6_setEnds_15 rfl ?_
  refine zr_get X K (C := RX6) (T := TX6) (N := 5) (k := 1) mF_3_7 rfl rfl ti_6 (by decide) rfl tw_180 rfl dX6_setEnds_16 ?_
  refine zr_iloadn X dX6_setEnds_19 rfl ?_
  refine zr_iloadn X dX6_setEnds_20 rfl ?_
  refine zr_callNI X K (q := (RX3, TX3, 6)) (st := []) (c_X3_chooseEnds l D cs ad hap (b := 0) (by decide) (σ := σ) h.1 (s := s) (t := t) (Or.inr ⟨hS, hT, hD⟩)) ⟨tn_373, tw_375, tp_15, tw_3, tw_376⟩ dc_X3_chooseEnds mF_6_0 rfl rfl rfl rfl rfl (Nat.le_of_ble_eq_true rfl) (by decide) dX6_setEnds_21 ?_
  intro z τ hce
  have hk := ce_keep h hce
  refine zr_xzret X ⟨by decide, by decide⟩ hr dX6_setEnds_24 hk.2.2.1 ?_
  exact ⟨hk.1, hk.2.1, ⟨hS, hT, hD⟩, hk.2.2⟩

set_option maxHeartbeats 4000000 in
set_option maxRecDepth 100000 in
theorem c_X6_smallestCut (l : Launch) (D : va_G) (cs : Nat → ClassId) (ad : Ix → Nat) (hap : Apart idsF ad) (hl : l.stackTraces = false) {σ : Mem} (h : fnOk σ) (sz : Nat) : CXI l D cs idsF ad yX6_smallestCut cX6_smallestCut 1 .int 7 8 48 sz [(.ref (ad (3, 7)))] σ (fun z τ => fnOk τ ∧ keepQ σ τ ∧ endsYes σ 0 ∧ smP σ z) ((fun E => E = ISE ∧ endsNo σ 0)) := by
  refine CXI.of RX6 hl hap idsF_nd (by decide) rfl (Nat.le_of_ble_eq_true rfl) ?_
  intro pg ev s0 mi av bl mt cd X K T hr
  have hN := h.net
  have hn := hN.1
  have hm := hN.2.1
  refine zr_aloadn X dX6_smallestCut_0 rfl ?_
  refine zr_xcallVV X K T (q := (RX6, TX6, 5)) (st := []) (fun sz => c_X6_requireEnds l D cs ad hap hl (σ := σ) hN h.ends sz) ⟨tw_382, tw_384, tp_16, tw_1, tw_385⟩ dc_X6_requireEnds mF_3_7 rfl rfl rfl rfl rfl (Nat.le_of_ble_eq_true rfl) (by decide) dX6_smallestCut_1 ⟨by decide, by decide⟩ (fun E h => h) ?_
  intro τ_ hp_
  obtain ⟨hτ_, hEy⟩ := hp_
  subst τ_
  refine zr_aloadn X dX6_smallestCut_4 rfl ?_
  refine zr_get X K (C := RX6) (T := TX6) (N := 5) (k := 1) mF_3_7 rfl rfl ti_6 (by decide) rfl tw_180 rfl dX6_smallestCut_5 ?_
  refine zr_callNI X K (q := (RX3, TX3, 6)) (st := []) (c_X3_smallestMask l D cs ad hap (b := 0) (by decide) (σ := σ) h.1 hEy (cut_0 h hEy)) ⟨tn_479, tw_481, tp_27, tw_3, tw_482⟩ dc_X3_smallestMask mF_6_0 rfl rfl rfl rfl rfl (Nat.le_of_ble_eq_true rfl) (by decide) dX6_smallestCut_8 ?_
  intro z τ hmk
  have hk := st_keep h hmk.1
  refine zr_xiret X ⟨by decide, by decide⟩ hr dX6_smallestCut_11 ?_
  exact ⟨hk.1, hk.2, hEy, sm_of hEy hmk.1 hmk.2⟩

set_option maxHeartbeats 4000000 in
set_option maxRecDepth 100000 in
theorem c_X6_greatestCut (l : Launch) (D : va_G) (cs : Nat → ClassId) (ad : Ix → Nat) (hap : Apart idsF ad) (hl : l.stackTraces = false) {σ : Mem} (h : fnOk σ) (sz : Nat) : CXI l D cs idsF ad yX6_greatestCut cX6_greatestCut 1 .int 7 8 48 sz [(.ref (ad (3, 7)))] σ (fun z τ => fnOk τ ∧ keepQ σ τ ∧ endsYes σ 0 ∧ gtP σ z) ((fun E => E = ISE ∧ endsNo σ 0)) := by
  refine CXI.of RX6 hl hap idsF_nd (by decide) rfl (Nat.le_of_ble_eq_true rfl) ?_
  intro pg ev s0 mi av bl mt cd X K T hr
  have hN := h.net
  have hn := hN.1
  have hm := hN.2.1
  refine zr_aloadn X dX6_greatestCut_0 rfl ?_
  refine zr_xcallVV X K T (q := (RX6, TX6, 5)) (st := []) (fun sz => c_X6_requireEnds l D cs ad hap hl (σ := σ) hN h.ends sz) ⟨tw_382, tw_384, tp_16, tw_1, tw_385⟩ dc_X6_requireEnds mF_3_7 rfl rfl rfl rfl rfl (Nat.le_of_ble_eq_true rfl) (by decide) dX6_greatestCut_1 ⟨by decide, by decide⟩ (fun E h => h) ?_
  intro τ_ hp_
  obtain ⟨hτ_, hEy⟩ := hp_
  subst τ_
  refine zr_aloadn X dX6_greatestCut_4 rfl ?_
  refine zr_get X K (C := RX6) (T := TX6) (N := 5) (k := 1) mF_3_7 rfl rfl ti_6 (by decide) rfl tw_180 rfl dX6_greatestCut_5 ?_
  refine zr_callNI X K (q := (RX3, TX3, 6)) (st := []) (c_X3_greatestMask l D cs ad hap (b := 0) (by decide) (σ := σ) h.1 hEy (cut_0 h hEy)) ⟨tn_496, tw_498, tp_30, tw_3, tw_499⟩ dc_X3_greatestMask mF_6_0 rfl rfl rfl rfl rfl (Nat.le_of_ble_eq_true rfl) (by decide) dX6_greatestCut_8 ?_
  intro z τ hmk
  have hk := st_keep h hmk.1
  refine zr_xiret X ⟨by decide, by decide⟩ hr dX6_greatestCut_11 ?_
  exact ⟨hk.1, hk.2, hEy, gt_of hEy hmk.1 hmk.2⟩





set_option maxHeartbeats 4000000 in
set_option maxRecDepth 100000 in
theorem c_X4_allNodes (l : Launch) (D : va_G) (cs : Nat → ClassId) (ad : Ix → Nat) (hap : Apart idsF ad) {σ : Mem} (hN : NetOk σ) : CI l D cs idsF ad yX4_allNodes cX4_allNodes 1 .int 0 [(.ref (ad (0, 0)))] σ (fun z τ => τ = σ ∧ z = pI (σ (0, 0) 0) - 1) := by
  refine CI.of RX4 hap idsF_nd (by decide) rfl (Nat.le_of_ble_eq_true rfl) ?_
  intro pg ev s0 mi av bl mt cd X K hr
  have hn := hN.1
  refine zr_iconst X dX4_allNodes_0 ?_
  refine zr_aloadn X dX4_allNodes_1 rfl ?_
  refine zr_get X K (C := RX4) (T := TX4) (N := 6) (k := 0) mF_0_0 rfl rfl ti_4 (by decide) rfl tw_33 rfl dX4_allNodes_2 ?_
  refine zr_ishl X dX4_allNodes_5 (zb_shl (by omega) (by omega)) ?_
  refine zr_iconst X dX4_allNodes_6 ?_
  refine zr_isub X dX4_allNodes_7 ?_
  refine zr_iret X hr dX4_allNodes_8 ?_
  exact ⟨rfl, rfl⟩

set_option maxHeartbeats 4000000 in
set_option maxRecDepth 100000 in
theorem c_X6_isCut (l : Launch) (D : va_G) (cs : Nat → ClassId) (ad : Ix → Nat) (hap : Apart idsF ad) {σ : Mem} (h : fnOk σ) (hE : endsYes σ 0) {m : Int} (hM : rg m) : CI l D cs idsF ad yX6_isCut cX6_isCut 2 .boolean 1 [(.ref (ad (3, 7))), (jI m)] σ (fun z τ => τ = σ ∧ (z = 0 ∨ z = 1) ∧ (z = 1 ↔ cutS σ m)) := by
  refine CI.of RX6 hap idsF_nd (by decide) rfl (Nat.le_of_ble_eq_true rfl) ?_
  intro pg ev s0 mi av bl mt cd X K hr
  have hN := h.net
  have hn := hN.1
  have hm := hN.2.1
  have hEe := ends_of hE
  have hp := pI_le hn
  refine zr_iloadn X dX6_isCut_0 rfl ?_
  refine zr_aloadn X dX6_isCut_1 rfl ?_
  refine zr_get X K (C := RX6) (T := TX6) (N := 5) (k := 0) mF_3_7 rfl rfl ti_6 (by decide) rfl tw_179 rfl dX6_isCut_2 ?_
  refine zr_callNI X K (q := (RX4, TX4, 6)) (st := [(jI m)]) (c_X4_allNodes l D cs ad hap (σ := σ) hN) ⟨tn_462, tw_464, tp_25, tw_2, tw_465⟩ dc_X4_allNodes mF_0_0 rfl rfl rfl rfl rfl (Nat.le_of_ble_eq_true rfl) (by decide) dX6_isCut_5 ?_
  intro z_ τ_ hp_
  obtain ⟨hτ_, hz_⟩ := hp_
  subst τ_
  subst z_
  refine zr_iconst X dX6_isCut_8 ?_
  refine zr_ixor X dX6_isCut_9 (iI_self _).symm ?_
  refine zr_iand X dX6_isCut_10 (iI_self _).symm ?_
  refine zr_if_ne X 46 dX6_isCut_11 (by decide) (iI_rg _) (fun t_11 => ?_) (fun f_11 => ?_)
  · have hz : ¬ cutS σ m := fun g => t_11 (by rw [iI_self]; exact (andN_0 hM hn).mpr g.1)
    refine zr_iconst X dX6_isCut_46 ?_
    refine zr_zret X hr dX6_isCut_47 (by omega) ?_
    exact ⟨rfl, Or.inl rfl, fun q => absurd q (by decide), fun q => absurd q hz⟩
  · have hz0 : 0 ≤ m ∧ m < pI (σ (0, 0) 0) := (andN_0 hM hn).mp (by rw [iI_self] at f_11; exact f_11)
    refine zr_iloadn X dX6_isCut_14 rfl ?_
    refine zr_aloadn X dX6_isCut_15 rfl ?_
    refine zr_get X K (C := RX6) (T := TX6) (N := 5) (k := 1) mF_3_7 rfl rfl ti_6 (by decide) rfl tw_180 rfl dX6_isCut_16 ?_
    refine zr_getN X K (v := (jI (σ (6, 8) 0))) (C := RX3) (T := TX3) (N := 6) (k := 3) mF_6_0 rfl rfl ti_3 (by decide) rfl tn_128 rfl dX6_isCut_19 ?_
    refine zr_callSI X K (st := []) (c_X6_contains l D cs ad hap (m := m) (v := σ (6, 8) 0) ⟨by omega, by omega⟩ ⟨by omega, by omega⟩) ⟨tw_466, tw_467, tw_1, tw_468⟩ dc_X6_contains rfl rfl (Nat.le_of_ble_eq_true rfl) (by decide) dX6_isCut_22 ?_
    intro z_ τ_ hp_
    obtain ⟨hτ_, hz_⟩ := hp_
    subst τ_
    subst z_
    refine zr_if_eq X 46 dX6_isCut_25 (by decide) ite01 (fun t_25 => ?_) (fun f_25 => ?_)
    · have hz : ¬ cutS σ m := fun g => ite0 t_25 g.2.1
      refine zr_iconst X dX6_isCut_46 ?_
      refine zr_zret X hr dX6_isCut_47 (by omega) ?_
      exact ⟨rfl, Or.inl rfl, fun q => absurd q (by decide), fun q => absurd q hz⟩
    · refine zr_iloadn X dX6_isCut_28 rfl ?_
      refine zr_aloadn X dX6_isCut_29 rfl ?_
      refine zr_get X K (C := RX6) (T := TX6) (N := 5) (k := 1) mF_3_7 rfl rfl ti_6 (by decide) rfl tw_180 rfl dX6_isCut_30 ?_
      refine zr_getN X K (v := (jI (σ (6, 9) 0))) (C := RX3) (T := TX3) (N := 6) (k := 4) mF_6_0 rfl rfl ti_3 (by decide) rfl tn_130 rfl dX6_isCut_33 ?_
      refine zr_callSI X K (st := []) (c_X6_contains l D cs ad hap (m := m) (v := σ (6, 9) 0) ⟨by omega, by omega⟩ ⟨by omega, by omega⟩) ⟨tw_466, tw_467, tw_1, tw_468⟩ dc_X6_contains rfl rfl (Nat.le_of_ble_eq_true rfl) (by decide) dX6_isCut_36 ?_
      intro z_ τ_ hp_
      obtain ⟨hτ_, hz_⟩ := hp_
      subst τ_
      subst z_
      refine zr_if_ne X 46 dX6_isCut_39 (by decide) ite01 (fun t_39 => ?_) (fun f_39 => ?_)
      · have hz : ¬ cutS σ m := fun g => g.2.2 (ite1 t_39)
        refine zr_iconst X dX6_isCut_46 ?_
        refine zr_zret X hr dX6_isCut_47 (by omega) ?_
        exact ⟨rfl, Or.inl rfl, fun q => absurd q (by decide), fun q => absurd q hz⟩
      · have hz : cutS σ m := ⟨hz0, ite1 f_25, ite0 f_39⟩
        refine zr_iconst X dX6_isCut_42 ?_
        refine zr_goto X 47 dX6_isCut_43 (by decide) ?_
        refine zr_zret X hr dX6_isCut_47 (by omega) ?_
        exact ⟨rfl, Or.inr rfl, fun _ => hz, fun _ => rfl⟩

set_option maxHeartbeats 4000000 in
set_option maxRecDepth 100000 in
theorem c_X6_cutCapacity (l : Launch) (D : va_G) (cs : Nat → ClassId) (ad : Ix → Nat) (hap : Apart idsF ad) (hl : l.stackTraces = false) {σ : Mem} (h : fnOk σ) {m : Int} (hM : rg m) (sz : Nat) : CXI l D cs idsF ad yX6_cutCapacity cX6_cutCapacity 2 .int 7 8 48 sz [(.ref (ad (3, 7))), (jI m)] σ (fun z τ => τ = σ ∧ endsYes σ 0 ∧ cutS σ m ∧ z = gcp (σ (0, 1) 0).toNat (σ (0, 2)) (σ (0, 3)) (σ (6, 2)) (bt m)) ((fun E => (E = ISE ∧ endsNo σ 0) ∨ (endsYes σ 0 ∧ E = IAE ∧ ¬ cutS σ m))) := by
  refine CXI.of RX6 hl hap idsF_nd (by decide) rfl (Nat.le_of_ble_eq_true rfl) ?_
  intro pg ev s0 mi av bl mt cd X K T hr
  have hN := h.net
  have hn := hN.1
  have hm := hN.2.1
  have hp := pI_le hn
  refine zr_aloadn X dX6_cutCapacity_0 rfl ?_
  refine zr_xcallVV X K T (q := (RX6, TX6, 5)) (st := []) (fun sz => c_X6_requireEnds l D cs ad hap hl (σ := σ) hN h.ends sz) ⟨tw_382, tw_384, tp_16, tw_1, tw_385⟩ dc_X6_requireEnds mF_3_7 rfl rfl rfl rfl rfl (Nat.le_of_ble_eq_true rfl) (by decide) dX6_cutCapacity_1 ⟨by decide, by decide⟩ (fun E h => Or.inl h) ?_
  intro τ_ hp_
  obtain ⟨hτ_, hEy⟩ := hp_
  subst τ_
  refine zr_aloadn X dX6_cutCapacity_4 rfl ?_
  refine zr_iloadn X dX6_cutCapacity_5 rfl ?_
  refine zr_callVI X K (q := (RX6, TX6, 5)) (st := []) (c_X6_isCut l D cs ad hap (σ := σ) h hEy hM) ⟨tw_458, tw_460, tp_24, tw_1, tw_461⟩ dc_X6_isCut mF_3_7 rfl rfl rfl rfl rfl (Nat.le_of_ble_eq_true rfl) (by decide) dX6_cutCapacity_6 ?_
  intro z τ_ hp_
  obtain ⟨hτ_, hz01, hz⟩ := hp_
  subst τ_
  refine zr_if_ne X 22 dX6_cutCapacity_9 (by decide) (by rcases hz01 with q | q <;> exact ⟨by omega, by omega⟩) (fun t_9 => ?_) (fun f_9 => ?_)
  · have hcu : cutS σ m := hz.mp (by omega)
    refine zr_aloadn X dX6_cutCapacity_22 rfl ?_
    refine zr_get X K (C := RX6) (T := TX6) (N := 5) (k := 1) mF_3_7 rfl rfl ti_6 (by decide) rfl tw_180 rfl dX6_cutCapacity_23 ?_
    refine zr_getN X K (v := (.ref (ad (6, 1)))) (C := RX3) (T := TX3) (N := 6) (k := 1) mF_6_0 rfl rfl ti_3 (by decide) rfl tn_124 rfl dX6_cutCapacity_26 ?_
    refine zr_iloadn X dX6_cutCapacity_29 rfl ?_
    refine zr_callNI X K (q := (RX1, TX1, 3)) (st := []) (c_X1_capacityOut l D cs ad hap (b := 0) (by decide) (σ := σ) hN (q := m) ⟨hcu.1.1, by have := hcu.1.2; omega⟩) ⟨tn_470, tw_472, tp_26, tw_4, tw_473⟩ dc_X1_capacityOut mF_6_1 rfl rfl rfl rfl rfl (Nat.le_of_ble_eq_true rfl) (by decide) dX6_cutCapacity_30 ?_
    intro z_ τ_ hp_
    obtain ⟨hτ_, hz_⟩ := hp_
    subst τ_
    subst z_
    refine zr_xiret X ⟨by decide, by decide⟩ hr dX6_cutCapacity_33 ?_
    exact ⟨rfl, hEy, hcu, coF_gcp⟩
  · exact zr_throw (E := IAE) (tx := "this is not the mask of a cut") X K T st_147 tw_275 tw_13 xat_IAE xgd_IAE (by decide +kernel) dX6_cutCapacity_12 dX6_cutCapacity_15 dX6_cutCapacity_16 dX6_cutCapacity_18 dX6_cutCapacity_21 ⟨Nat.le_of_ble_eq_true rfl, Nat.le_of_ble_eq_true rfl, Nat.le_of_ble_eq_true rfl, Nat.le_of_ble_eq_true rfl⟩ ⟨by decide, by decide⟩ (Or.inr ⟨hEy, rfl, fun g => absurd (hz.mpr g) (by omega)⟩)
end
section
/-! THE CLASS: what can be moved away from an arc, and onto it -/
def mvG (σ : Mem) (a : Int) (X : Int → Bool) : Int := net σ 0 X - ind X (σ (0, 2) a) (σ (6, 3) a) + ind X (σ (0, 3) a) (σ (6, 3) a)
def mvC (σ : Mem) (a : Int) (X : Int → Bool) : Int := gcp (σ (0, 1) 0).toNat (σ (0, 2)) (σ (0, 3)) (updC (σ (6, 2)) a 0) X
def mvS (σ τ : Mem) (a x y B z : Int) : Prop := (∀ g k : Nat, g ≠ 7 → τ (g, k) = σ (g, k)) ∧ 0 ≤ z ∧ (0 < B → z ≤ B) ∧ (B ≤ 0 → z = 0) ∧ (∀ X, mvG σ a X + ind X x z - ind X y z ≤ mvC σ a X) ∧ (0 < B → z = B ∨ ∃ X : Int → Bool, X x = true ∧ ¬ X y = true ∧ mvG σ a X + ind X x z - ind X y z = mvC σ a X)
theorem mv_pre {σ τ1 τ2 : Mem} {a : Int} (h : mfOk σ 0) (ha : 0 ≤ a ∧ a < σ (0, 1) 0) (hc : cpP σ τ1) (hb : τ2 = mset (mset τ1 (7, 2) a 0) (7, 3) a 0) : (NetOk τ2 ∧ AdjOk τ2 ∧ FlOk τ2 1) ∧ (∀ g k : Nat, g ≠ 7 → τ2 (g, k) = σ (g, k)) ∧ (∀ X, net τ2 1 X = mvG σ a X) ∧ ∀ X, cpo τ2 1 X = mvC σ a X := by
  have hm := h.1.1.2.1
  have f : ∀ g k : Nat, g ≠ 7 → τ2 (g, k) = τ1 (g, k) := fun g k hg => by rw [hb, mset_id (fun e => hg (by cases e; rfl)), mset_id (fun e => hg (by cases e; rfl))]
  have e2 : ∀ j, τ2 (7, 2) j = if j = a then 0 else τ1 (7, 2) j := fun j => by rw [hb, mset_id (by decide), mset_at]
  have e3 : ∀ j, τ2 (7, 3) j = if j = a then 0 else τ1 (7, 3) j := fun j => by rw [hb, mset_at]; by_cases q : j = a <;> simp only [q, if_true, if_false]; rw [mset_id (by decide)]
  have hfr : Fr 1 [2, 3] τ1 τ2 := ⟨fun g k hq => by
    rcases hq with q | q
    · exact f g k q
    · by_cases e : g = 7
      · subst e
        rw [hb, mset_id (fun e => q (by cases e; decide)), mset_id (fun e => q (by cases e; decide))]
      · exact f g k e, fun j hj => by
    show τ2 (7, 3) j = τ1 (7, 3) j
    have := hc.2.1 0 1 (by decide)
    rw [e3, if_neg (by rw [this] at hj; omega)]⟩
  have e01 := hc.2.1 0 1 (by decide)
  have e02 := hc.2.1 0 2 (by decide)
  have e03 := hc.2.1 0 3 (by decide)
  have hF1 : FlOk τ1 1 := hc.1.1.2.2
  refine ⟨⟨hfr.net hc.1.1.1, hfr.adj hc.1.1.2.1, fun j j0 j1 => ?_⟩, fun g k hg => (f g k hg).trans (hc.2.1 g k hg), fun X => ?_, fun X => ?_⟩
  · rw [f 0 1 (by decide)] at j1
    have := hF1 j j0 j1
    show 0 ≤ τ2 (7, 3) j ∧ τ2 (7, 3) j ≤ τ2 (7, 2) j ∧ τ2 (7, 2) j ≤ 100000000
    have this : 0 ≤ τ1 (7, 3) j ∧ τ1 (7, 3) j ≤ τ1 (7, 2) j ∧ τ1 (7, 2) j ≤ 100000000 := this
    rw [e2, e3]
    split <;> omega
  · have h1 : net τ1 1 X = net σ 0 X := by
      unfold net
      rw [e01]
      refine sm_cong fun j j0 j1 => ?_
      show ind X (τ1 (0, 2) j) (τ1 (7, 3) j) - ind X (τ1 (0, 3) j) (τ1 (7, 3) j) = ind X (σ (0, 2) j) (σ (6, 3) j) - ind X (σ (0, 3) j) (σ (6, 3) j)
      rw [e02, e03, (hc.2.2.1 j j0 (by omega)).2]
    have h2 := net_send (σ := τ1) (τ := τ2) (b := 1) (X := X) (a := a) (x := - τ1 (7, 3) a) (by rw [e01]; exact ha) (f 0 1 (by decide)) (f 0 2 (by decide)) (f 0 3 (by decide)) (fun j => by
      show τ2 (7, 3) j = if j = a then τ1 (7, 3) a + - τ1 (7, 3) a else τ1 (7, 3) j
      rw [e3]
      by_cases q : j = a
      · rw [if_pos q, if_pos q]; omega
      · rw [if_neg q, if_neg q])
    rw [h2, h1, e02, e03, (hc.2.2.1 a ha.1 (by omega)).2]
    unfold mvG ind
    split <;> split <;> omega
  · unfold cpo mvC gcp
    rw [f 0 1 (by decide), e01]
    refine sm_cong fun j j0 j1 => ?_
    show (if X (τ2 (0, 2) j) = true ∧ ¬ X (τ2 (0, 3) j) = true then τ2 (7, 2) j else 0) = if X (σ (0, 2) j) = true ∧ ¬ X (σ (0, 3) j) = true then updC (σ (6, 2)) a 0 j else 0
    rw [f 0 2 (by decide), f 0 3 (by decide), e02, e03, e2]
    unfold updC
    by_cases q : j = a
    · rw [if_pos q, if_pos q]
    · rw [if_neg q, if_neg q, (hc.2.2.1 j j0 (by omega)).1]
theorem mv_of {σ τ1 τ2 τ : Mem} {a x y B z : Int} (h : mfOk σ 0) (ha : 0 ≤ a ∧ a < σ (0, 1) 0) (hc : cpP σ τ1) (hb : τ2 = mset (mset τ1 (7, 2) a 0) (7, 3) a 0) (hx : 0 ≤ x) (hy : 0 ≤ y) (hxy : x ≠ y) (k : rtP τ2 τ 1 x y B z) : mvS σ τ a x y B z := by
  obtain ⟨⟨p1, p2, p3⟩, p4, p5, p6⟩ := mv_pre h ha hc hb
  obtain ⟨k1, k2, k3, k4, k5, k6, k7⟩ := k
  have hN := k3.net p1
  have hcp : ∀ X, cpo τ 1 X = mvC σ a X := fun X => by rw [cpo_same (k3.of 0 1) (k3.of 0 2) (k3.of 0 3) (k3.own 2)]; exact p6 X
  have hne : ∀ X, net τ 1 X = mvG σ a X + ind X x z - ind X y z := fun X => by rw [k4 X, p5 X]
  refine ⟨fun g q hg => (fr1 k3 g q hg).trans (p4 g q hg), k1, k6, fun q => (k5 (Or.inr (Or.inr (Or.inr q)))).1, fun X => ?_, fun q => (k7 hx hy hxy q).imp id ?_⟩
  · rw [← hne, ← hcp]
    exact net_le hN k2 X
  · rintro ⟨X, x1, x2, x3⟩
    refine ⟨X, x1, x2, ?_⟩
    rw [← hne, ← hcp]
    exact clo_net hN k2 x3
theorem ind1 (X : Int → Bool) (v x : Int) : ind X v x = 0 ∨ ind X v x = x := by
  unfold ind
  split
  · exact Or.inr rfl
  · exact Or.inl rfl
theorem updC_le {m : Nat} {tl hd c : Int → Int} {a : Int} (hc : ∀ j : Int, 0 ≤ j → j < m → 0 ≤ c j) (X : Int → Bool) : 0 ≤ gcp m tl hd (updC c a 0) X ∧ gcp m tl hd (updC c a 0) X ≤ gcp m tl hd c X := by
  refine ⟨gcp_nn (fun j j0 j1 => ?_) X, sm_le fun j j0 j1 => ?_⟩
  · have := hc j j0 j1
    unfold updC
    split <;> omega
  · have := hc j j0 j1
    show (if X (tl j) = true ∧ ¬ X (hd j) = true then updC c a 0 j else 0) ≤ if X (tl j) = true ∧ ¬ X (hd j) = true then c j else 0
    unfold updC
    split
    · split <;> omega
    · exact Int.le_refl 0
/-- the least and the greatest flow over an arc -/
def leS (σ : Mem) (a z : Int) : Prop := ∃ F F0, mnS σ (σ (6, 2)) (σ (6, 8) 0) (σ (6, 9) 0) F ∧ mnS σ (updC (σ (6, 2)) a 0) (σ (6, 8) 0) (σ (6, 9) 0) F0 ∧ z = F - F0
def gfS (σ : Mem) (a z : Int) : Prop := ∃ F, mnS σ (σ (6, 2)) (σ (6, 8) 0) (σ (6, 9) 0) F ∧ z ≤ σ (6, 2) a ∧ (∀ X : Int → Bool, X (σ (0, 3) a) = true → ¬ X (σ (0, 2) a) = true → ind X (σ (6, 8) 0) F - ind X (σ (6, 9) 0) F + z ≤ gcp (σ (0, 1) 0).toNat (σ (0, 2)) (σ (0, 3)) (σ (6, 2)) X) ∧ (z = σ (6, 2) a ∨ ∃ X : Int → Bool, X (σ (0, 3) a) = true ∧ ¬ X (σ (0, 2) a) = true ∧ ind X (σ (6, 8) 0) F - ind X (σ (6, 9) 0) F + z = gcp (σ (0, 1) 0).toNat (σ (0, 2)) (σ (0, 3)) (σ (6, 2)) X)
theorem le_of {σ σ1 τ : Mem} {a z : Int} (hf : fnOk σ) (hE : endsYes σ 0) (h : stP σ σ1 0) (ha : 0 ≤ a ∧ a < σ (0, 1) 0) (k : mvS σ1 τ a (σ1 (0, 2) a) (σ1 (0, 3) a) (σ1 (6, 3) a) z) : leS σ a (σ1 (6, 3) a - z) := by
  have hm := hf.net.2.1
  have hk := (st_keep hf h).2
  obtain ⟨F, hF0, hV, hX⟩ := st_val h
  have hMn : mnS σ (σ (6, 2)) (σ (6, 8) 0) (σ (6, 9) 0) F := isMn_of hX
  have e1 : σ1 (0, 1) = σ (0, 1) := hk.1 0 1 (by decide)
  have e2 : σ1 (0, 2) = σ (0, 2) := hk.1 0 2 (by decide)
  have e3 : σ1 (0, 3) = σ (0, 3) := hk.1 0 3 (by decide)
  obtain ⟨-, k1, k2, k3, k4, k5⟩ := k
  have hfa := h.1.1.2.2 a ha.1 (by rw [e1]; exact ha.2)
  have hfa : 0 ≤ σ1 (6, 3) a ∧ σ1 (6, 3) a ≤ σ1 (6, 2) a := ⟨hfa.1, hfa.2.1⟩
  have hG : ∀ X, mvG σ1 a X + ind X (σ1 (0, 2) a) z - ind X (σ1 (0, 3) a) z = ind X (σ (6, 8) 0) F - ind X (σ (6, 9) 0) F - ind X (σ (0, 2) a) (σ1 (6, 3) a - z) + ind X (σ (0, 3) a) (σ1 (6, 3) a - z) := fun X => by
    have : net σ1 0 X = ind X (σ1 (6, 8) 0) F - ind X (σ1 (6, 9) 0) F := hV X
    unfold mvG
    rw [this, hk.2.2.1, hk.2.2.2, e2, e3, ind_sub, ind_sub]
    omega
  have hC : ∀ X, mvC σ1 a X = gcp (σ (0, 1) 0).toNat (σ (0, 2)) (σ (0, 3)) (updC (σ (6, 2)) a 0) X := fun X => by
    unfold mvC
    rw [e1, e2, e3, hk.2.1]
  have hcn : ∀ j : Int, 0 ≤ j → j < ((σ (0, 1) 0).toNat : Int) → 0 ≤ σ (6, 2) j := fun j j0 j1 => (hf.2.1 j j0 (by omega)).1
  have hkn : 0 ≤ σ1 (6, 3) a - z := by
    by_cases q : 0 < σ1 (6, 3) a
    · have := k2 q; omega
    · have := k3 (by omega); omega
  have hlow : ∀ X : Int → Bool, X (σ (6, 8) 0) = true → ¬ X (σ (6, 9) 0) = true → F - (σ1 (6, 3) a - z) ≤ gcp (σ (0, 1) 0).toNat (σ (0, 2)) (σ (0, 3)) (updC (σ (6, 2)) a 0) X := fun X x1 x2 => by
    have := k4 X
    rw [hG, hC, ind_t x1, ind_f x2] at this
    have g1 := ind1 X (σ (0, 2) a) (σ1 (6, 3) a - z)
    have g2 := ind_nn2 X (v := σ (0, 3) a) hkn
    omega
  refine ⟨F, F - (σ1 (6, 3) a - z), hMn, ⟨?_, hlow⟩, by omega⟩
  by_cases q : σ1 (6, 3) a - z = 0
  · obtain ⟨X, x1, x2, x3⟩ := hMn.1
    refine ⟨X, x1, x2, ?_⟩
    have g1 := (updC_le (tl := σ (0, 2)) (hd := σ (0, 3)) (a := a) hcn X).2
    have g2 := hlow X x1 x2
    omega
  · have hB : 0 < σ1 (6, 3) a := by omega
    obtain ⟨X, x1, x2, x3⟩ := (k5 hB).resolve_left (by omega)
    rw [e2] at x1
    rw [e3] at x2
    rw [hG, hC, ind_t x1, ind_f x2] at x3
    have g1 := (updC_le (tl := σ (0, 2)) (hd := σ (0, 3)) (a := a) hcn X).1
    have g2 := ind_nn2 X (v := σ (6, 9) 0) hF0
    have y1 : X (σ (6, 8) 0) = true := by
      by_cases y : X (σ (6, 8) 0) = true
      · exact y
      · rw [ind_f y] at x3; omega
    have y2 : ¬ X (σ (6, 9) 0) = true := fun y => by
      rw [ind_t y1, ind_t y] at x3; omega
    rw [ind_t y1, ind_f y2] at x3
    exact ⟨X, y1, y2, by omega⟩
theorem gf_of {σ σ1 τ : Mem} {a z : Int} (hf : fnOk σ) (hE : endsYes σ 0) (h : stP σ σ1 0) (ha : 0 ≤ a ∧ a < σ (0, 1) 0) (k : mvS σ1 τ a (σ1 (0, 3) a) (σ1 (0, 2) a) (σ1 (6, 2) a - σ1 (6, 3) a) z) : gfS σ a (σ1 (6, 3) a + z) := by
  have hm := hf.net.2.1
  have hk := (st_keep hf h).2
  obtain ⟨F, hF0, hV, hX⟩ := st_val h
  have hMn : mnS σ (σ (6, 2)) (σ (6, 8) 0) (σ (6, 9) 0) F := isMn_of hX
  have e1 : σ1 (0, 1) = σ (0, 1) := hk.1 0 1 (by decide)
  have e2 : σ1 (0, 2) = σ (0, 2) := hk.1 0 2 (by decide)
  have e3 : σ1 (0, 3) = σ (0, 3) := hk.1 0 3 (by decide)
  have e4 : σ1 (6, 2) a = σ (6, 2) a := congrFun hk.2.1 a
  obtain ⟨-, k1, k2, k3, k4, k5⟩ := k
  have hfa := h.1.1.2.2 a ha.1 (by rw [e1]; exact ha.2)
  have hfa : 0 ≤ σ1 (6, 3) a ∧ σ1 (6, 3) a ≤ σ1 (6, 2) a := ⟨hfa.1, hfa.2.1⟩
  have hG : ∀ X : Int → Bool, X (σ (0, 3) a) = true → ¬ X (σ (0, 2) a) = true → mvG σ1 a X + ind X (σ1 (0, 3) a) z - ind X (σ1 (0, 2) a) z = ind X (σ (6, 8) 0) F - ind X (σ (6, 9) 0) F + (σ1 (6, 3) a + z) := fun X x1 x2 => by
    have : net σ1 0 X = ind X (σ1 (6, 8) 0) F - ind X (σ1 (6, 9) 0) F := hV X
    unfold mvG
    rw [this, hk.2.2.1, hk.2.2.2, e2, e3, ind_t x1, ind_f x2, ind_f x2, ind_t x1]
    omega
  have hC : ∀ X : Int → Bool, ¬ X (σ (0, 2) a) = true → mvC σ1 a X = gcp (σ (0, 1) 0).toNat (σ (0, 2)) (σ (0, 3)) (σ (6, 2)) X := fun X x2 => by
    unfold mvC
    rw [e1, e2, e3, hk.2.1]
    refine sm_cong fun j j0 j1 => ?_
    show (if X (σ (0, 2) j) = true ∧ ¬ X (σ (0, 3) j) = true then updC (σ (6, 2)) a 0 j else 0) = if X (σ (0, 2) j) = true ∧ ¬ X (σ (0, 3) j) = true then σ (6, 2) j else 0
    by_cases q : j = a
    · subst q
      rw [if_neg (fun g => x2 g.1), if_neg (fun g => x2 g.1)]
    · rw [show updC (σ (6, 2)) a 0 j = σ (6, 2) j from if_neg q]
  refine ⟨F, hMn, ?_, fun X x1 x2 => ?_, ?_⟩
  · by_cases q : 0 < σ1 (6, 2) a - σ1 (6, 3) a
    · have := k2 q; omega
    · have := k3 (by omega); omega
  · have := k4 X
    rw [hG X x1 x2, hC X x2] at this
    exact this
  · by_cases q : 0 < σ1 (6, 2) a - σ1 (6, 3) a
    · rcases k5 q with g | ⟨X, x1, x2, x3⟩
      · exact Or.inl (by omega)
      · rw [e3] at x1
        rw [e2] at x2
        rw [hG X x1 x2, hC X x2] at x3
        exact Or.inr ⟨X, x1, x2, x3⟩
    · have := k3 (by omega)
      exact Or.inl (by omega)
theorem mv_keep {σ τ : Mem} {a x y B z : Int} (hf : fnOk σ) (k : mvS σ τ a x y B z) : fnOk τ ∧ keepQ σ τ := ⟨(keepQ.o7 k.1).ok hf (mf_cong (fun g q hg => k.1 g q (by omega)) (fun q => k.1 6 q (by decide)) hf.1), keepQ.o7 k.1⟩

theorem dc_X6_movable : dcl yX6_movable 3 := ⟨by decide, by decide, by decide +kernel⟩

set_option maxHeartbeats 4000000 in
set_option maxRecDepth 100000 in
theorem c_X6_movable (l : Launch) (D : va_G) (cs : Nat → ClassId) (ad : Ix → Nat) (hap : Apart idsF ad) {σ : Mem} (h : mfOk σ 0) {a x B : Int} (ha : 0 ≤ a ∧ a < σ (0, 1) 0) (hx : x = σ (0, 2) a ∨ x = σ (0, 3) a) (hB : rg B ∧ B ≤ 100000000) : CI l D cs idsF ad yX6_movable cX6_movable 4 .int 5 [(.ref (ad (3, 7))), (jI a), (jI x), (jI B)] σ (fun z τ => mvS σ τ a x (otF σ a x) B z) := by
  refine CI.of RX6 hap idsF_nd (by decide) rfl (Nat.le_of_ble_eq_true rfl) ?_
  intro pg ev s0 mi av bl mt cd X K hr
  have hN := h.1.1
  have hn := hN.1
  have hm := hN.2.1
  have hNa := hN.2.2 a ha.1 ha.2
  have ho : (0 ≤ otF σ a x ∧ otF σ a x < σ (0, 0) 0) ∧ x ≠ otF σ a x := by
    unfold otF
    split <;> omega
  refine zr_aloadn X dX6_movable_0 rfl ?_
  refine zr_get X K (C := RX6) (T := TX6) (N := 5) (k := 2) mF_3_7 rfl rfl ti_6 (by decide) rfl tw_181 rfl dX6_movable_1 ?_
  refine zr_aloadn X dX6_movable_4 rfl ?_
  refine zr_get X K (C := RX6) (T := TX6) (N := 5) (k := 1) mF_3_7 rfl rfl ti_6 (by decide) rfl tw_180 rfl dX6_movable_5 ?_
  refine zr_callNV X K (q := (RX3, TX3, 6)) (st := []) (c_X3_copy l D cs ad hap (σ := σ) h) ⟨tn_419, tw_421, tp_20, tw_3, tw_422⟩ dc_X3_copy mF_7_0 rfl rfl rfl rfl rfl (Nat.le_of_ble_eq_true rfl) (by decide) dX6_movable_8 ?_
  intro υ hcp
  refine zr_aloadn X dX6_movable_11 rfl ?_
  refine zr_get X K (C := RX6) (T := TX6) (N := 5) (k := 2) mF_3_7 rfl rfl ti_6 (by decide) rfl tw_181 rfl dX6_movable_12 ?_
  refine zr_getN X K (v := (.ref (ad (7, 1)))) (C := RX3) (T := TX3) (N := 6) (k := 1) mF_7_0 rfl rfl ti_3 (by decide) rfl tn_124 rfl dX6_movable_15 ?_
  refine zr_iloadn X dX6_movable_18 rfl ?_
  refine zr_callNV X K (q := (RX1, TX1, 3)) (st := []) (c_X1_block l D cs ad hap (b := 1) (by decide) (σ := υ) (a := a) ⟨ha.1, by omega⟩) ⟨tn_443, tw_445, tp_23, tw_4, tw_446⟩ dc_X1_block mF_7_1 rfl rfl rfl rfl rfl (Nat.le_of_ble_eq_true rfl) (by decide) dX6_movable_19 ?_
  intro ω hbl
  have hbl : ω = mset (mset υ (7, 2) a 0) (7, 3) a 0 := hbl
  have hp := mv_pre h ha hcp hbl
  have w0 : ω (0, 0) = σ (0, 0) := hp.2.1 0 0 (by decide)
  have w1 : ω (0, 1) = σ (0, 1) := hp.2.1 0 1 (by decide)
  have w2 : ω (0, 2) = σ (0, 2) := hp.2.1 0 2 (by decide)
  have w3 : ω (0, 3) = σ (0, 3) := hp.2.1 0 3 (by decide)
  have wo : otF ω a x = otF σ a x := by
    unfold otF
    rw [w2, w3]
  refine zr_aloadn X dX6_movable_22 rfl ?_
  refine zr_get X K (C := RX6) (T := TX6) (N := 5) (k := 2) mF_3_7 rfl rfl ti_6 (by decide) rfl tw_181 rfl dX6_movable_23 ?_
  refine zr_getN X K (v := (.ref (ad (7, 4)))) (C := RX3) (T := TX3) (N := 6) (k := 2) mF_7_0 rfl rfl ti_3 (by decide) rfl tn_126 rfl dX6_movable_26 ?_
  refine zr_iloadn X dX6_movable_29 rfl ?_
  refine zr_aloadn X dX6_movable_30 rfl ?_
  refine zr_get X K (C := RX6) (T := TX6) (N := 5) (k := 0) mF_3_7 rfl rfl ti_6 (by decide) rfl tw_179 rfl dX6_movable_31 ?_
  refine zr_iloadn X dX6_movable_34 rfl ?_
  refine zr_iloadn X dX6_movable_35 rfl ?_
  refine zr_callNI X K (q := (RX4, TX4, 6)) (st := [(jI x), (.ref (ad (7, 4)))]) (c_X4_otherEnd l D cs ad hap (σ := ω) hp.1.1 (a := a) (v := x) (by rw [w1]; exact ha) (by omega)) ⟨tn_447, tw_316, tp_7, tw_2, tw_317⟩ dc_X4_otherEnd mF_0_0 rfl rfl rfl rfl rfl (Nat.le_of_ble_eq_true rfl) (by decide) dX6_movable_36 ?_
  intro z_ τ_ hp_
  obtain ⟨hτ_, hz_⟩ := hp_
  subst τ_
  subst z_
  refine zr_iloadn X dX6_movable_39 rfl ?_
  refine zr_callNI X K (q := (RX5, TX5, 7)) (st := []) (c_X5_route l D cs ad hap (b := 1) (by decide) (σ := ω) hp.1.1 hp.1.2.1 hp.1.2.2 (s := x) (t := otF ω a x) (B := B) (by rw [w0]; omega) (by rw [w0, wo]; omega) hB) ⟨tn_448, tw_301, tp_4, tw_5, tw_302⟩ dc_X5_route mF_7_4 rfl rfl rfl rfl rfl (Nat.le_of_ble_eq_true rfl) (by decide) dX6_movable_40 ?_
  intro z τ hrt
  rw [wo] at hrt
  refine zr_iret X hr dX6_movable_43 ?_
  exact mv_of h ha hcp hbl (by omega) ho.1.1 ho.2 hrt

set_option maxHeartbeats 4000000 in
set_option maxRecDepth 100000 in
theorem c_X6_leastFlow (l : Launch) (D : va_G) (cs : Nat → ClassId) (ad : Ix → Nat) (hap : Apart idsF ad) (hl : l.stackTraces = false) {σ : Mem} (h : fnOk σ) {a : Int} (ha : rg a) (sz : Nat) : CXI l D cs idsF ad yX6_leastFlow cX6_leastFlow 4 .int 7 8 48 sz [(.ref (ad (3, 7))), (jI a)] σ (fun z τ => fnOk τ ∧ keepQ σ τ ∧ endsYes σ 0 ∧ (0 ≤ a ∧ a < σ (0, 1) 0) ∧ leS σ a z) ((fun E => (E = ISE ∧ endsNo σ 0) ∨ (endsYes σ 0 ∧ E = IOB ∧ ¬ (0 ≤ a ∧ a < σ (0, 1) 0)))) := by
  refine CXI.of RX6 hl hap idsF_nd (by decide) rfl (Nat.le_of_ble_eq_true rfl) ?_
  intro pg ev s0 mi av bl mt cd X K T hr
  have hN := h.net
  have hn := hN.1
  have hm := hN.2.1
  refine zr_aloadn X dX6_leastFlow_0 rfl ?_
  refine zr_xcallVV X K T (q := (RX6, TX6, 5)) (st := []) (fun sz => c_X6_requireEnds l D cs ad hap hl (σ := σ) hN h.ends sz) ⟨tw_382, tw_384, tp_16, tw_1, tw_385⟩ dc_X6_requireEnds mF_3_7 rfl rfl rfl rfl rfl (Nat.le_of_ble_eq_true rfl) (by decide) dX6_leastFlow_1 ⟨by decide, by decide⟩ (fun E h => Or.inl h) ?_
  intro τ_ hp_
  obtain ⟨hτ_, hEy⟩ := hp_
  subst τ_
  refine zr_aloadn X dX6_leastFlow_4 rfl ?_
  refine zr_iloadn X dX6_leastFlow_5 rfl ?_
  refine zr_xcallVV X K T (q := (RX6, TX6, 5)) (st := []) (fun sz => c_X6_requireArc l D cs ad hap hl (σ := σ) hN (v := a) ha sz) ⟨tw_199, tw_201, tp_0, tw_1, tw_202⟩ dc_X6_requireArc mF_3_7 rfl rfl rfl rfl rfl (Nat.le_of_ble_eq_true rfl) (by decide) dX6_leastFlow_6 ⟨by decide, by decide⟩ (fun E h => Or.inr ⟨hEy, h⟩) ?_
  intro τ_ hp_
  obtain ⟨hτ_, hA⟩ := hp_
  subst τ_
  refine zr_aloadn X dX6_leastFlow_9 rfl ?_
  refine zr_get X K (C := RX6) (T := TX6) (N := 5) (k := 1) mF_3_7 rfl rfl ti_6 (by decide) rfl tw_180 rfl dX6_leastFlow_10 ?_
  refine zr_callNV X K (q := (RX3, TX3, 6)) (st := []) (c_X3_settle l D cs ad hap (b := 0) (by decide) (σ := σ) h.1 hEy (cut_0 h hEy)) ⟨tn_438, tw_412, tp_19, tw_3, tw_413⟩ dc_X3_settle mF_6_0 rfl rfl rfl rfl rfl (Nat.le_of_ble_eq_true rfl) (by decide) dX6_leastFlow_13 ?_
  intro σ1 hst
  have hk := st_keep h hst
  have e1 : σ1 (0, 1) = σ (0, 1) := hk.2.1 0 1 (by decide)
  have hN1 := hk.1.net
  have hA1 : 0 ≤ a ∧ a < σ1 (0, 1) 0 := by rw [e1]; exact hA
  have hNa := hN1.2.2 a hA1.1 hA1.2
  have hn1 := hN1.1
  have hfa : 0 ≤ σ1 (6, 3) a ∧ σ1 (6, 3) a ≤ σ1 (6, 2) a := ⟨(hst.1.1.2.2 a hA1.1 hA1.2).1, (hst.1.1.2.2 a hA1.1 hA1.2).2.1⟩
  have hca := hk.1.2.1 a hA1.1 (by omega)
  have hot : otF σ1 a (σ1 (0, 2) a) = σ1 (0, 3) a := if_pos rfl
  have hoh : otF σ1 a (σ1 (0, 3) a) = σ1 (0, 2) a := if_neg (by omega)
  refine zr_aloadn X dX6_leastFlow_16 rfl ?_
  refine zr_get X K (C := RX6) (T := TX6) (N := 5) (k := 0) mF_3_7 rfl rfl ti_6 (by decide) rfl tw_179 rfl dX6_leastFlow_17 ?_
  refine zr_getN X K (C := RX4) (T := TX4) (N := 6) (k := 2) mF_0_0 rfl rfl ti_4 (by decide) rfl tn_44 rfl dX6_leastFlow_20 ?_
  refine zr_iloadn X dX6_leastFlow_23 rfl ?_
  refine zr_iald X K (n := 80) mF_0_2 rfl (by decide) (by omega) dX6_leastFlow_24 ?_
  refine zr_istoren X dX6_leastFlow_25 (by decide) rfl ?_
  refine zr_aloadn X dX6_leastFlow_26 rfl ?_
  refine zr_get X K (C := RX6) (T := TX6) (N := 5) (k := 1) mF_3_7 rfl rfl ti_6 (by decide) rfl tw_180 rfl dX6_leastFlow_27 ?_
  refine zr_getN X K (v := (.ref (ad (6, 1)))) (C := RX3) (T := TX3) (N := 6) (k := 1) mF_6_0 rfl rfl ti_3 (by decide) rfl tn_124 rfl dX6_leastFlow_30 ?_
  refine zr_getN X K (v := (.ref (ad (6, 3)))) (C := RX1) (T := TX1) (N := 3) (k := 2) mF_6_1 rfl rfl ti_1 (by decide) rfl tn_86 rfl dX6_leastFlow_33 ?_
  refine zr_iloadn X dX6_leastFlow_36 rfl ?_
  refine zr_iald X K (n := 80) mF_6_3 rfl (by decide) (by omega) dX6_leastFlow_37 ?_
  refine zr_istoren X dX6_leastFlow_38 (by decide) rfl ?_
  refine zr_iloadn X dX6_leastFlow_39 rfl ?_
  refine zr_aloadn X dX6_leastFlow_40 rfl ?_
  refine zr_iloadn X dX6_leastFlow_41 rfl ?_
  refine zr_iloadn X dX6_leastFlow_42 rfl ?_
  refine zr_iloadn X dX6_leastFlow_43 rfl ?_
  refine zr_callVI X K (q := (RX6, TX6, 5)) (st := [(jI (σ1 (6, 3) a))]) (c_X6_movable l D cs ad hap (σ := σ1) hk.1.1 (a := a) (x := σ1 (0, 2) a) (B := σ1 (6, 3) a) hA1 (Or.inl rfl) ⟨⟨by omega, by omega⟩, by omega⟩) ⟨tw_439, tw_441, tp_22, tw_1, tw_442⟩ dc_X6_movable mF_3_7 rfl rfl rfl rfl rfl (Nat.le_of_ble_eq_true rfl) (by decide) dX6_leastFlow_44 ?_
  intro z τ hmv
  rw [hot] at hmv
  refine zr_isub X dX6_leastFlow_47 ?_
  refine zr_xiret X ⟨by decide, by decide⟩ hr dX6_leastFlow_48 ?_
  have hk2 := mv_keep hk.1 hmv
  exact ⟨hk2.1, hk.2.tr hk2.2, hEy, hA, le_of h hEy hst hA hmv⟩

set_option maxHeartbeats 4000000 in
set_option maxRecDepth 100000 in
theorem c_X6_greatestFlow (l : Launch) (D : va_G) (cs : Nat → ClassId) (ad : Ix → Nat) (hap : Apart idsF ad) (hl : l.stackTraces = false) {σ : Mem} (h : fnOk σ) {a : Int} (ha : rg a) (sz : Nat) : CXI l D cs idsF ad yX6_greatestFlow cX6_greatestFlow 4 .int 7 8 48 sz [(.ref (ad (3, 7))), (jI a)] σ (fun z τ => fnOk τ ∧ keepQ σ τ ∧ endsYes σ 0 ∧ (0 ≤ a ∧ a < σ (0, 1) 0) ∧ gfS σ a z) ((fun E => (E = ISE ∧ endsNo σ 0) ∨ (endsYes σ 0 ∧ E = IOB ∧ ¬ (0 ≤ a ∧ a < σ (0, 1) 0)))) := by
  refine CXI.of RX6 hl hap idsF_nd (by decide) rfl (Nat.le_of_ble_eq_true rfl) ?_
  intro pg ev s0 mi av bl mt cd X K T hr
  have hN := h.net
  have hn := hN.1
  have hm := hN.2.1
  refine zr_aloadn X dX6_greatestFlow_0 rfl ?_
  refine zr_xcallVV X K T (q := (RX6, TX6, 5)) (st := []) (fun sz => c_X6_requireEnds l D cs ad hap hl (σ := σ) hN h.ends sz) ⟨tw_382, tw_384, tp_16, tw_1, tw_385⟩ dc_X6_requireEnds mF_3_7 rfl rfl rfl rfl rfl (Nat.le_of_ble_eq_true rfl) (by decide) dX6_greatestFlow_1 ⟨by decide, by decide⟩ (fun E h => Or.inl h) ?_
  intro τ_ hp_
  obtain ⟨hτ_, hEy⟩ := hp_
  subst τ_
  refine zr_aloadn X dX6_greatestFlow_4 rfl ?_
  refine zr_iloadn X dX6_greatestFlow_5 rfl ?_
  refine zr_xcallVV X K T (q := (RX6, TX6, 5)) (st := []) (fun sz => c_X6_requireArc l D cs ad hap hl (σ := σ) hN (v := a) ha sz) ⟨tw_199, tw_201, tp_0, tw_1, tw_202⟩ dc_X6_requireArc mF_3_7 rfl rfl rfl rfl rfl (Nat.le_of_ble_eq_true rfl) (by decide) dX6_greatestFlow_6 ⟨by decide, by decide⟩ (fun E h => Or.inr ⟨hEy, h⟩) ?_
  intro τ_ hp_
  obtain ⟨hτ_, hA⟩ := hp_
  subst τ_
  refine zr_aloadn X dX6_greatestFlow_9 rfl ?_
  refine zr_get X K (C := RX6) (T := TX6) (N := 5) (k := 1) mF_3_7 rfl rfl ti_6 (by decide) rfl tw_180 rfl dX6_greatestFlow_10 ?_
  refine zr_callNV X K (q := (RX3, TX3, 6)) (st := []) (c_X3_settle l D cs ad hap (b := 0) (by decide) (σ := σ) h.1 hEy (cut_0 h hEy)) ⟨tn_438, tw_412, tp_19, tw_3, tw_413⟩ dc_X3_settle mF_6_0 rfl rfl rfl rfl rfl (Nat.le_of_ble_eq_true rfl) (by decide) dX6_greatestFlow_13 ?_
  intro σ1 hst
  have hk := st_keep h hst
  have e1 : σ1 (0, 1) = σ (0, 1) := hk.2.1 0 1 (by decide)
  have hN1 := hk.1.net
  have hA1 : 0 ≤ a ∧ a < σ1 (0, 1) 0 := by rw [e1]; exact hA
  have hNa := hN1.2.2 a hA1.1 hA1.2
  have hn1 := hN1.1
  have hfa : 0 ≤ σ1 (6, 3) a ∧ σ1 (6, 3) a ≤ σ1 (6, 2) a := ⟨(hst.1.1.2.2 a hA1.1 hA1.2).1, (hst.1.1.2.2 a hA1.1 hA1.2).2.1⟩
  have hca := hk.1.2.1 a hA1.1 (by omega)
  have hot : otF σ1 a (σ1 (0, 2) a) = σ1 (0, 3) a := if_pos rfl
  have hoh : otF σ1 a (σ1 (0, 3) a) = σ1 (0, 2) a := if_neg (by omega)
  refine zr_aloadn X dX6_greatestFlow_16 rfl ?_
  refine zr_get X K (C := RX6) (T := TX6) (N := 5) (k := 0) mF_3_7 rfl rfl ti_6 (by decide) rfl tw_179 rfl dX6_greatestFlow_17 ?_
  refine zr_getN X K (C := RX4) (T := TX4) (N := 6) (k := 2) mF_0_0 rfl rfl ti_4 (by decide) rfl tn_44 rfl dX6_greatestFlow_20 ?_
  refine zr_iloadn X dX6_greatestFlow_23 rfl ?_
  refine zr_iald X K (n := 80) mF_0_2 rfl (by decide) (by omega) dX6_greatestFlow_24 ?_
  refine zr_istoren X dX6_greatestFlow_25 (by decide) rfl ?_
  refine zr_aloadn X dX6_greatestFlow_26 rfl ?_
  refine zr_get X K (C := RX6) (T := TX6) (N := 5) (k := 0) mF_3_7 rfl rfl ti_6 (by decide) rfl tw_179 rfl dX6_greatestFlow_27 ?_
  refine zr_getN X K (C := RX4) (T := TX4) (N := 6) (k := 3) mF_0_0 rfl rfl ti_4 (by decide) rfl tn_49 rfl dX6_greatestFlow_30 ?_
  refine zr_iloadn X dX6_greatestFlow_33 rfl ?_
  refine zr_iald X K (n := 80) mF_0_3 rfl (by decide) (by omega) dX6_greatestFlow_34 ?_
  refine zr_istoren X dX6_greatestFlow_35 (by decide) rfl ?_
  refine zr_aloadn X dX6_greatestFlow_36 rfl ?_
  refine zr_get X K (C := RX6) (T := TX6) (N := 5) (k := 1) mF_3_7 rfl rfl ti_6 (by decide) rfl tw_180 rfl dX6_greatestFlow_37 ?_
  refine zr_getN X K (v := (.ref (ad (6, 1)))) (C := RX3) (T := TX3) (N := 6) (k := 1) mF_6_0 rfl rfl ti_3 (by decide) rfl tn_124 rfl dX6_greatestFlow_40 ?_
  refine zr_getN X K (v := (.ref (ad (6, 3)))) (C := RX1) (T := TX1) (N := 3) (k := 2) mF_6_1 rfl rfl ti_1 (by decide) rfl tn_86 rfl dX6_greatestFlow_43 ?_
  refine zr_iloadn X dX6_greatestFlow_46 rfl ?_
  refine zr_iald X K (n := 80) mF_6_3 rfl (by decide) (by omega) dX6_greatestFlow_47 ?_
  refine zr_aloadn X dX6_greatestFlow_48 rfl ?_
  refine zr_iloadn X dX6_greatestFlow_49 rfl ?_
  refine zr_iloadn X dX6_greatestFlow_50 rfl ?_
  refine zr_aloadn X dX6_greatestFlow_51 rfl ?_
  refine zr_get X K (C := RX6) (T := TX6) (N := 5) (k := 1) mF_3_7 rfl rfl ti_6 (by decide) rfl tw_180 rfl dX6_greatestFlow_52 ?_
  refine zr_getN X K (v := (.ref (ad (6, 1)))) (C := RX3) (T := TX3) (N := 6) (k := 1) mF_6_0 rfl rfl ti_3 (by decide) rfl tn_124 rfl dX6_greatestFlow_55 ?_
  refine zr_iloadn X dX6_greatestFlow_58 rfl ?_
  refine zr_iloadn X dX6_greatestFlow_59 rfl ?_
  refine zr_callNI X K (q := (RX1, TX1, 3)) (st := [(jI (σ1 (0, 3) a)), (jI a), (.ref (ad (3, 7))), (jI (σ1 (6, 3) a))]) (c_X1_room l D cs ad hap (b := 0) (by decide) (σ := σ1) hN1 (a := a) (v := σ1 (0, 2) a) hA1 (by omega)) ⟨tn_453, tw_320, tp_8, tw_4, tw_321⟩ dc_X1_room mF_6_1 rfl rfl rfl rfl rfl (Nat.le_of_ble_eq_true rfl) (by decide) dX6_greatestFlow_60 ?_
  intro z_ τ_ hp_
  obtain ⟨hτ_, hz_⟩ := hp_
  subst τ_
  subst z_
  have hrm : rmF σ1 0 a (σ1 (0, 2) a) = σ1 (6, 2) a - σ1 (6, 3) a := rmF_t
  rw [hrm]
  refine zr_callVI X K (q := (RX6, TX6, 5)) (st := [(jI (σ1 (6, 3) a))]) (c_X6_movable l D cs ad hap (σ := σ1) hk.1.1 (a := a) (x := σ1 (0, 3) a) (B := σ1 (6, 2) a - σ1 (6, 3) a) hA1 (Or.inr rfl) ⟨⟨by omega, by omega⟩, by omega⟩) ⟨tw_439, tw_441, tp_22, tw_1, tw_442⟩ dc_X6_movable mF_3_7 rfl rfl rfl rfl rfl (Nat.le_of_ble_eq_true rfl) (by decide) dX6_greatestFlow_63 ?_
  intro z τ hmv
  rw [hoh] at hmv
  refine zr_iadd X dX6_greatestFlow_66 ?_
  refine zr_xiret X ⟨by decide, by decide⟩ hr dX6_greatestFlow_67 ?_
  have hk2 := mv_keep hk.1 hmv
  exact ⟨hk2.1, hk.2.tr hk2.2, hEy, hA, gf_of h hEy hst hA hmv⟩
end
section
/-! THE CLASS: levels, nodes and arcs -/
def pushP (σ τ : Mem) : Prop := (∀ q : Ix, q ∉ [((3, 0) : Ix), (3, 1), (3, 2), (2, (σ (3, 0) 0).toNat)] → τ q = σ q) ∧ τ (3, 0) 0 = σ (3, 0) 0 + 1 ∧ (∀ i, τ (3, 1) i = if i = σ (3, 0) 0 then σ (6, 8) 0 else σ (3, 1) i) ∧ (∀ i, τ (3, 2) i = if i = σ (3, 0) 0 then σ (6, 9) 0 else σ (3, 2) i) ∧ ∀ a, 0 ≤ a → a < 80 → τ (2, (σ (3, 0) 0).toNat) a = σ (6, 2) a
theorem push_of {σ σ1 σ2 σ3 τ : Mem} (e1 : mcopy σ (6, 2) (2, (σ (3, 0) 0).toNat) 80 = σ1) (e2 : mset σ1 (3, 1) (σ1 (3, 0) 0) (σ1 (6, 8) 0) = σ2) (e3 : mset σ2 (3, 2) (σ2 (3, 0) 0) (σ2 (6, 9) 0) = σ3) (e4 : mset σ3 (3, 0) 0 (σ3 (3, 0) 0 + 1) = τ) : pushP σ τ := by
  have n3 : ∀ k : Nat, ((3, k) : Ix) ≠ (2, (σ (3, 0) 0).toNat) := fun k e => by cases e
  have n6 : ∀ k : Nat, ((6, k) : Ix) ≠ (2, (σ (3, 0) 0).toNat) := fun k e => by cases e
  have m3 : ∀ k : Nat, ((2, (σ (3, 0) 0).toNat) : Ix) ≠ (3, k) := fun k e => by cases e
  have f1 : ∀ q, q ≠ (2, (σ (3, 0) 0).toNat) → σ1 q = σ q := fun q hq => by rw [← e1]; exact mcopy_id hq
  have f2 : ∀ q, q ≠ (3, 1) → σ2 q = σ1 q := fun q hq => by rw [← e2]; exact mset_id hq
  have f3 : ∀ q, q ≠ (3, 2) → σ3 q = σ2 q := fun q hq => by rw [← e3]; exact mset_id hq
  have f4 : ∀ q, q ≠ (3, 0) → τ q = σ3 q := fun q hq => by rw [← e4]; exact mset_id hq
  have c1 : σ1 (3, 0) = σ (3, 0) := f1 _ (n3 0)
  have c2 : σ2 (3, 0) = σ (3, 0) := (f2 _ (by decide)).trans c1
  refine ⟨fun q hq => ?_, ?_, fun i => ?_, fun i => ?_, fun a a0 a1 => ?_⟩
  · simp only [List.mem_cons, List.not_mem_nil, or_false, not_or] at hq
    rw [f4 q hq.1, f3 q hq.2.2.1, f2 q hq.2.1, f1 q hq.2.2.2]
  · rw [← e4, mset_same, f3 _ (by decide), c2]
  · rw [f4 _ (by decide), f3 _ (by decide), ← e2, mset_at, c1, f1 _ (n6 8), f1 _ (n3 1)]
  · rw [f4 _ (by decide), ← e3, mset_at, c2, f2 _ (by decide), f1 _ (n6 9), f2 _ (by decide), f1 _ (n3 2)]
  · rw [f4 _ (m3 0), f3 _ (m3 2), f2 _ (m3 1), ← e1, mcopy_in a0 a1]
theorem push_ok {σ τ : Mem} (h : fnOk σ) (hc : σ (3, 0) 0 < 8) (k : pushP σ τ) : fnOk τ := by
  obtain ⟨k1, k2, k3, k4, k5⟩ := k
  have hl := h.2.2.1
  have n0 : ∀ g j : Nat, g ≠ 2 → g ≠ 3 → τ (g, j) = σ (g, j) := fun g j h2 h3 => k1 _ (fun q => by
    simp only [List.mem_cons, List.not_mem_nil, or_false] at q
    rcases q with q | q | q | q
    · exact h3 (congrArg Prod.fst q)
    · exact h3 (congrArg Prod.fst q)
    · exact h3 (congrArg Prod.fst q)
    · exact h2 (congrArg Prod.fst q))
  refine ⟨mf_cong (fun g j hg => n0 g j (by omega) (by omega)) (fun j => n0 6 j (by decide) (by decide)) h.1, ?_, ⟨by have := hl.1; omega, fun i i0 i1 => ?_, fun i i0 i1 a a0 a1 => ?_⟩, ?_⟩
  · have := h.2.1
    unfold capOk at this ⊢
    rw [n0 6 2 (by decide) (by decide)]
    exact this
  · rw [k3, k4, n0 0 0 (by decide) (by decide)]
    by_cases q : i = σ (3, 0) 0
    · rw [if_pos q, if_pos q]
      exact h.ends
    · rw [if_neg q, if_neg q]
      exact hl.2.1 i i0 (by omega)
  · by_cases q : i = σ (3, 0) 0
    · rw [q, k5 a a0 a1]
      exact h.2.1 a a0 a1
    · rw [k1 (2, i.toNat) (fun g => by
        simp only [List.mem_cons, List.not_mem_nil, or_false] at g
        rcases g with g | g | g | g
        · cases g
        · cases g
        · cases g
        · have : i.toNat = (σ (3, 0) 0).toNat := congrArg Prod.snd g
          have := hl.1
          omega)]
      exact hl.2.2 i i0 (by omega) a a0 a1
  · have := h.2.2.2
    unfold cuOk at this ⊢
    rw [k1 (3, 4) (fun g => by
        simp only [List.mem_cons, List.not_mem_nil, or_false] at g
        rcases g with g | g | g | g
        · cases g
        · cases g
        · cases g
        · cases g)]
    exact this
def popP (σ τ : Mem) : Prop := (∀ g k : Nat, g < 6 → ((g, k) : Ix) ≠ (3, 0) → τ (g, k) = σ (g, k)) ∧ τ (3, 0) 0 = σ (3, 0) 0 - 1 ∧ (∀ j, τ (6, 2) j = if 0 ≤ j ∧ j < σ (0, 1) 0 then σ (2, (σ (3, 0) 0 - 1).toNat) j else σ (6, 2) j) ∧ τ (6, 8) 0 = σ (3, 1) (σ (3, 0) 0 - 1) ∧ τ (6, 9) 0 = σ (3, 2) (σ (3, 0) 0 - 1)
theorem pop_ok {σ τ : Mem} (h : fnOk σ) (hc : 0 < σ (3, 0) 0) (hm : mfOk τ 0) (k : popP σ τ) : fnOk τ := by
  obtain ⟨k1, k2, k3, -, -⟩ := k
  have hl := h.2.2.1
  refine ⟨hm, fun a a0 a1 => ?_, ⟨by have := hl.1; omega, fun i i0 i1 => ?_, fun i i0 i1 a a0 a1 => ?_⟩, ?_⟩
  · rw [k3]
    split
    · exact hl.2.2 _ (by omega) (by omega) a a0 a1
    · exact h.2.1 a a0 a1
  · rw [k1 3 1 (by decide) (by decide), k1 3 2 (by decide) (by decide), k1 0 0 (by decide) (by decide)]
    exact hl.2.1 i i0 (by omega)
  · rw [k1 2 _ (by decide) (fun e => by cases e)]
    exact hl.2.2 i i0 (by omega) a a0 a1
  · have := h.2.2.2
    unfold cuOk at this ⊢
    rw [k1 3 4 (by decide) (by decide)]
    exact this
def popI (σ σ1 υ : Mem) (v i : Int) : Prop := mfOk υ 0 ∧ (∀ g k : Nat, g < 6 → υ (g, k) = σ1 (g, k)) ∧ (∀ j, υ (6, 2) j = if 0 ≤ j ∧ j < i then σ (2, v.toNat) j else σ (6, 2) j) ∧ υ (6, 8) 0 = σ (3, 1) v ∧ υ (6, 9) 0 = σ (3, 2) v
theorem pop_0 {σ σ1 υ : Mem} {v z : Int} (hq : ∀ q : Ix, q ≠ (3, 0) → σ1 q = σ q) (k : ceP σ1 υ 0 (σ1 (3, 1) v) (σ1 (3, 2) v) z) : popI σ σ1 υ v 0 := by
  refine ⟨k.1, fun g q hg => k.2.1 g q (Or.inl (by omega)), fun j => ?_, ?_, ?_⟩
  · rw [if_neg (fun q => by omega), ← hq (6, 2) (by decide)]
    exact congrFun (k.2.1 6 2 (Or.inr (by decide))) j
  · rw [← hq (3, 1) (by decide)]
    exact k.2.2.1.1
  · rw [← hq (3, 2) (by decide)]
    exact k.2.2.1.2
theorem pop_s {σ σ1 υ τ : Mem} {v i x : Int} (h0 : 0 ≤ i) (h : popI σ σ1 υ v i) (hx : x = σ (2, v.toNat) i) (k : ccP υ τ 0 i x) : popI σ σ1 τ v (i + 1) := by
  obtain ⟨-, h1, h2, h3, h4⟩ := h
  obtain ⟨k1, k2, k3⟩ := k
  refine ⟨k1, fun g q hg => (k2.1 g q (Or.inl (by omega))).trans (h1 g q hg), fun j => ?_, (congrFun (k2.own 8) 0).trans h3, (congrFun (k2.own 9) 0).trans h4⟩
  refine (k3 j).trans ?_
  by_cases e : j = i
  · rw [if_pos e, if_pos ⟨by omega, by omega⟩, hx, e]
  · rw [if_neg e, show υ (0 + 6, 2) j = υ (6, 2) j from rfl, h2 j]
    by_cases g : 0 ≤ j ∧ j < i
    · rw [if_pos g, if_pos ⟨by omega, by omega⟩]
    · rw [if_neg g, if_neg (fun q => by omega)]
/-! a new node -/
def anP (σ τ : Mem) : Prop := (∀ q : Ix, q ≠ (0, 0) → τ q = σ q) ∧ τ (0, 0) 0 = σ (0, 0) 0 + 1
theorem an_ok {σ τ : Mem} (h : fnOk σ) (hc : σ (0, 0) 0 < 24) (k : anP σ τ) : fnOk τ := by
  obtain ⟨k1, k2⟩ := k
  obtain ⟨⟨⟨hN, hA, hF⟩, hE, ⟨F, hF0, hV⟩, h0, h10, hs, hz⟩, hC, hL, hU⟩ := h
  have e : ∀ g j : Nat, g ≠ 0 → τ (g, j) = σ (g, j) := fun g j hg => k1 _ (fun q => hg (congrArg Prod.fst q))
  have e1 : τ (0, 1) = σ (0, 1) := k1 _ (by decide)
  have e2 : τ (0, 2) = σ (0, 2) := k1 _ (by decide)
  have e3 : τ (0, 3) = σ (0, 3) := k1 _ (by decide)
  have e4 : τ (0, 4) = σ (0, 4) := k1 _ (by decide)
  have ey : endsYes σ 0 → endsYes τ 0 := fun q => by
    obtain ⟨q1, q2, q3⟩ := ends_of q
    show (0 ≤ τ (6, 8) 0 ∧ τ (6, 8) 0 < τ (0, 0) 0) ∧ (0 ≤ τ (6, 9) 0 ∧ τ (6, 9) 0 < τ (0, 0) 0) ∧ τ (6, 8) 0 ≠ τ (6, 9) 0
    rw [e 6 8 (by decide), e 6 9 (by decide), k2]
    exact ⟨⟨q1.1, by omega⟩, ⟨q2.1, by omega⟩, q3⟩
  refine ⟨⟨⟨⟨by have := hN.1; omega, by rw [e1]; exact hN.2.1, fun a a0 a1 => ?_⟩, ⟨fun v v0 v1 => ?_, fun v v0 v1 => ?_, ?_, ?_⟩, ?_⟩, hE.imp (fun q => ?_) ey, ⟨F, hF0, fun X => ?_⟩, fun q => ?_, ?_, fun q => ?_, ?_⟩, ?_, ⟨?_, fun i i0 i1 => ?_, ?_⟩, ?_⟩
  · rw [e1] at a1
    rw [e2, e3, k2]
    have := hN.2.2 a a0 a1
    omega
  · rw [e4, e1]; exact hA.1 v v0 v1
  · rw [e4]; exact hA.2.1 v (by omega) v1
  · have e' : ∀ v : Nat, τ (1, v) = σ (1, v) := fun v => e 1 v (by decide)
    simp only [e1, e2, e3, e4, e']
    exact hA.2.2.1
  · have e' : ∀ v : Nat, τ (1, v) = σ (1, v) := fun v => e 1 v (by decide)
    simp only [e1, e2, e3, e4, e']
    exact hA.2.2.2
  · unfold FlOk at hF ⊢
    rw [e1, e _ 2 (by omega), e _ 3 (by omega)]
    exact hF
  · unfold endsNo at q ⊢
    rw [e _ 8 (by omega), e _ 9 (by omega)]
    exact q
  · rw [net_same e1 e2 e3 (e _ 3 (by omega)), e _ 8 (by omega), e _ 9 (by omega)]
    exact hV X
  · unfold endsNo at q
    rw [e _ 8 (by omega), e _ 9 (by omega)] at q
    rw [e1, e _ 3 (by omega)]
    exact h0 q
  · rw [e _ 10 (by omega)]; exact h10
  · rw [e _ 10 (by omega)] at q
    obtain ⟨g1, X, g2, g3, g4⟩ := hs q
    refine ⟨ey g1, X, ?_, ?_, clo_same e1 e2 e3 (e _ 2 (by omega)) (e _ 3 (by omega)) g4⟩
    · rw [e _ 8 (by omega)]; exact g2
    · rw [e _ 9 (by omega)]; exact g3
  · rw [e1, e _ 2 (by omega), e _ 3 (by omega)]
    exact hz
  · unfold capOk at hC ⊢
    rw [e 6 2 (by decide)]
    exact hC
  · rw [e 3 0 (by decide)]; exact hL.1
  · rw [e 3 0 (by decide)] at i1
    rw [e 3 1 (by decide), e 3 2 (by decide), k2]
    have := hL.2.1 i i0 i1
    omega
  · have e' : ∀ v : Nat, τ (2, v) = σ (2, v) := fun v => e 2 v (by decide)
    simp only [e 3 0 (by decide), e']
    exact hL.2.2
  · unfold cuOk at hU ⊢
    rw [e 3 4 (by decide)]
    exact hU
/-! a new arc -/
def atP (σ τ : Mem) (v a : Int) : Prop := (∀ q : Ix, q ≠ (0, 4) → q ≠ (1, v.toNat) → τ q = σ q) ∧ (∀ j, τ (0, 4) j = if j = v then σ (0, 4) v + 1 else σ (0, 4) j) ∧ ∀ i, τ (1, v.toNat) i = if i = σ (0, 4) v then a else σ (1, v.toNat) i
def maP (σ τ : Mem) (f g : Int) : Prop := (∀ h k : Nat, h ≠ 0 → h ≠ 1 → τ (h, k) = σ (h, k)) ∧ τ (0, 0) = σ (0, 0) ∧ τ (0, 1) 0 = σ (0, 1) 0 + 1 ∧ (∀ j, τ (0, 2) j = if j = σ (0, 1) 0 then f else σ (0, 2) j) ∧ (∀ j, τ (0, 3) j = if j = σ (0, 1) 0 then g else σ (0, 3) j) ∧
  (∀ v, τ (0, 4) v = σ (0, 4) v + (if v = f then 1 else 0) + (if v = g then 1 else 0)) ∧ ∀ v, 0 ≤ v → ∀ i, τ (1, v.toNat) i = if (v = f ∨ v = g) ∧ i = σ (0, 4) v then σ (0, 1) 0 else σ (1, v.toNat) i
theorem ma_of {σ σ1 σ2 σ3 σ4 τ : Mem} {f g : Int} (hf : 0 ≤ f) (hg : 0 ≤ g) (hfg : f ≠ g) (e1 : mset σ (0, 1) 0 (σ (0, 1) 0 + 1) = σ1) (e2 : mset σ1 (0, 2) (σ (0, 1) 0) f = σ2) (e3 : mset σ2 (0, 3) (σ (0, 1) 0) g = σ3) (k4 : atP σ3 σ4 f (σ (0, 1) 0)) (k5 : atP σ4 τ g (σ (0, 1) 0)) : maP σ τ f g := by
  have f1 : ∀ q, q ≠ (0, 1) → σ1 q = σ q := fun q hq => by rw [← e1]; exact mset_id hq
  have f2 : ∀ q, q ≠ (0, 2) → σ2 q = σ1 q := fun q hq => by rw [← e2]; exact mset_id hq
  have f3 : ∀ q, q ≠ (0, 3) → σ3 q = σ2 q := fun q hq => by rw [← e3]; exact mset_id hq
  have n1 : ∀ k v : Nat, ((0, k) : Ix) ≠ (1, v) := fun k v e => by cases e
  have n0 : ∀ k v : Nat, ((1, v) : Ix) ≠ (0, k) := fun k v e => by cases e
  have d3 : ∀ q, q ≠ (0, 1) → q ≠ (0, 2) → q ≠ (0, 3) → σ3 q = σ q := fun q a b c => by rw [f3 q c, f2 q b, f1 q a]
  obtain ⟨a1, a2, a3⟩ := k4
  obtain ⟨b1, b2, b3⟩ := k5
  have g4 : σ3 (0, 4) = σ (0, 4) := d3 _ (by decide) (by decide) (by decide)
  refine ⟨fun h k h0 h1 => ?_, ?_, ?_, fun j => ?_, fun j => ?_, fun v => ?_, fun v v0 i => ?_⟩
  · have q0 : ∀ j : Nat, ((h, k) : Ix) ≠ (0, j) := fun j e => h0 (congrArg Prod.fst e)
    have q1 : ∀ j : Nat, ((h, k) : Ix) ≠ (1, j) := fun j e => h1 (congrArg Prod.fst e)
    rw [b1 _ (q0 4) (q1 _), a1 _ (q0 4) (q1 _), d3 _ (q0 1) (q0 2) (q0 3)]
  · rw [b1 _ (by decide) (n1 _ _), a1 _ (by decide) (n1 _ _), d3 _ (by decide) (by decide) (by decide)]
  · rw [b1 _ (by decide) (n1 _ _), a1 _ (by decide) (n1 _ _), f3 _ (by decide), f2 _ (by decide), ← e1, mset_same]
  · rw [b1 _ (by decide) (n1 _ _), a1 _ (by decide) (n1 _ _), f3 _ (by decide), ← e2, mset_at, f1 _ (by decide)]
  · rw [b1 _ (by decide) (n1 _ _), a1 _ (by decide) (n1 _ _), ← e3, mset_at, f2 _ (by decide), f1 _ (by decide)]
  · rw [b2, a2, a2, g4]
    by_cases p : v = f <;> by_cases q : v = g
    · omega
    · rw [if_neg q, if_pos p, if_pos p, if_neg q, p]; omega
    · rw [if_pos q, if_neg (fun e => hfg e.symm), if_neg p, if_pos q, q]; omega
    · rw [if_neg q, if_neg p, if_neg p, if_neg q]; omega
  · have hne : ∀ x y : Int, 0 ≤ x → 0 ≤ y → x ≠ y → ((1, x.toNat) : Ix) ≠ (1, y.toNat) := fun x y x0 y0 hxy e => by
      have : x.toNat = y.toNat := congrArg Prod.snd e
      omega
    have r3 : σ3 (1, v.toNat) = σ (1, v.toNat) := d3 _ (n0 _ _) (n0 _ _) (n0 _ _)
    by_cases p : v = f
    · subst p
      rw [b1 _ (n0 _ _) (hne _ _ v0 hg hfg), a3, g4, r3]
      by_cases q : i = σ (0, 4) v
      · rw [if_pos q, if_pos ⟨Or.inl rfl, q⟩]
      · rw [if_neg q, if_neg (fun e => q e.2)]
    · by_cases q : v = g
      · subst q
        have w4 : σ4 (0, 4) v = σ (0, 4) v := by rw [a2, if_neg p, g4]
        rw [b3, w4, a1 _ (n0 _ _) (hne _ _ v0 hf p), r3]
        by_cases q : i = σ (0, 4) v
        · rw [if_pos q, if_pos ⟨Or.inr rfl, q⟩]
        · rw [if_neg q, if_neg (fun e => q e.2)]
      · rw [b1 _ (n0 _ _) (hne _ _ v0 hg q), a1 _ (n0 _ _) (hne _ _ v0 hf p), r3, if_neg (fun e => e.1.elim p q)]
theorem ma_ok {σ τ : Mem} {f g : Int} (h : mfOk σ 0) (hm : σ (0, 1) 0 < 80) (hf : 0 ≤ f ∧ f < σ (0, 0) 0) (hg : 0 ≤ g ∧ g < σ (0, 0) 0) (hfg : f ≠ g) (k : maP σ τ f g) : mfOk τ 0 := by
  obtain ⟨k0, k1, k2, k3, k4, k5, k6⟩ := k
  obtain ⟨⟨hN, hA, hF⟩, hE, ⟨F, hF0, hV⟩, h0, h10, hs, hz⟩ := h
  have hN1 := hN.1
  have hN2 := hN.2.1
  have e : ∀ j : Nat, τ (0 + 6, j) = σ (0 + 6, j) := fun j => k0 _ j (by omega) (by omega)
  have z0 := hz (σ (0, 1) 0) (Int.le_refl _) hm
  have ey : endsYes σ 0 → endsYes τ 0 := fun q => by
    unfold endsYes at q ⊢
    rw [e 8, e 9, k1]
    exact q
  have t2 : ∀ a, 0 ≤ a → a < σ (0, 1) 0 → τ (0, 2) a = σ (0, 2) a ∧ τ (0, 3) a = σ (0, 3) a := fun a a0 a1 => by
    rw [k3, k4, if_neg (by omega), if_neg (by omega)]
    exact ⟨rfl, rfl⟩
  refine ⟨⟨⟨by rw [k1]; exact hN.1, by omega, fun a a0 a1 => ?_⟩, ⟨fun v v0 v1 => ?_, fun v v0 v1 => ?_, fun v i v0 v1 i0 i1 => ?_, fun a a0 a1 => ?_⟩, fun a a0 a1 => ?_⟩, hE.imp (fun q => ?_) ey, ⟨F, hF0, fun X => ?_⟩, fun q a a0 a1 => ?_, ?_, fun q => ?_, fun a a0 a1 => ?_⟩
  · rw [k1]
    by_cases q : a = σ (0, 1) 0
    · rw [k3, k4, if_pos q, if_pos q]
      exact ⟨hf, hg, hfg⟩
    · rw [(t2 a a0 (by omega)).1, (t2 a a0 (by omega)).2]
      exact hN.2.2 a a0 (by omega)
  · rw [k5, k2]
    have := hA.1 v v0 v1
    by_cases p : v = f <;> by_cases q : v = g
    · omega
    · rw [if_pos p, if_neg q]; omega
    · rw [if_neg p, if_pos q]; omega
    · rw [if_neg p, if_neg q]; omega
  · rw [k1] at v0
    rw [k5, if_neg (by omega), if_neg (by omega), hA.2.1 v v0 v1]
    rfl
  · rw [k6 v v0 i, k2]
    by_cases q : (v = f ∨ v = g) ∧ i = σ (0, 4) v
    · rw [if_pos q, k3, k4, if_pos rfl, if_pos rfl]
      exact ⟨⟨hN2.1, by omega⟩, q.1.imp Eq.symm Eq.symm⟩
    · rw [if_neg q]
      have hi : i < σ (0, 4) v := by
        rw [k5] at i1
        by_cases p1 : v = f
        · have : i ≠ σ (0, 4) v := fun e => q ⟨Or.inl p1, e⟩
          rw [if_pos p1, if_neg (by omega)] at i1
          omega
        · by_cases p2 : v = g
          · have : i ≠ σ (0, 4) v := fun e => q ⟨Or.inr p2, e⟩
            rw [if_neg p1, if_pos p2] at i1
            omega
          · rw [if_neg p1, if_neg p2] at i1
            omega
      have := hA.2.2.1 v i v0 v1 i0 hi
      rw [(t2 _ this.1.1 this.1.2).1, (t2 _ this.1.1 this.1.2).2]
      exact ⟨⟨this.1.1, by omega⟩, this.2⟩
  · have key : ∀ v, 0 ≤ v → v < 24 → ∀ i, 0 ≤ i → i < σ (0, 4) v → i < τ (0, 4) v ∧ τ (1, v.toNat) i = σ (1, v.toNat) i := fun v v0 v1 i i0 i1 => by
      refine ⟨by rw [k5]; split <;> split <;> omega, ?_⟩
      rw [k6 v v0 i]
      exact if_neg (fun q => by omega)
    by_cases q : a = σ (0, 1) 0
    · rw [k3, k4, if_pos q, if_pos q]
      have d1 := hA.1 f hf.1 (by omega)
      have d2 := hA.1 g hg.1 (by omega)
      refine ⟨⟨σ (0, 4) f, ⟨d1.1, ?_⟩, ?_⟩, ⟨σ (0, 4) g, ⟨d2.1, ?_⟩, ?_⟩⟩
      · rw [k5, if_pos rfl, if_neg hfg]; omega
      · rw [k6 f hf.1, if_pos ⟨Or.inl rfl, rfl⟩, q]
      · rw [k5, if_neg (fun e => hfg e.symm), if_pos rfl]; omega
      · rw [k6 g hg.1, if_pos ⟨Or.inr rfl, rfl⟩, q]
    · rw [(t2 a a0 (by omega)).1, (t2 a a0 (by omega)).2]
      have hn := hN.2.2 a a0 (by omega)
      obtain ⟨⟨i, i0, i1⟩, j, j0, j1⟩ := hA.2.2.2 a a0 (by omega)
      have q1 := key _ hn.1.1 (by omega) i i0.1 i0.2
      have q2 := key _ hn.2.1.1 (by omega) j j0.1 j0.2
      exact ⟨⟨i, ⟨i0.1, q1.1⟩, q1.2.trans i1⟩, j, ⟨j0.1, q2.1⟩, q2.2.trans j1⟩
  · rw [e 2, e 3]
    by_cases q : a = σ (0, 1) 0
    · rw [q, z0.1, z0.2]; omega
    · exact hF a a0 (by omega)
  · unfold endsNo at q ⊢
    rw [e 8, e 9]
    exact q
  · rw [e 8, e 9, ← hV X]
    unfold net
    rw [k2, sm_succ hN2.1]
    have h1 : nf τ 0 X (σ (0, 1) 0) = 0 := by
      unfold nf
      rw [e 3, z0.2, ind_0, ind_0]
      rfl
    rw [h1, Int.add_zero]
    refine sm_cong fun a a0 a1 => ?_
    unfold nf
    rw [(t2 a a0 (by omega)).1, (t2 a a0 (by omega)).2, e 3]
  · unfold endsNo at q
    rw [e 8, e 9] at q
    rw [e 3]
    by_cases p : a = σ (0, 1) 0
    · rw [p]; exact z0.2
    · exact h0 q a a0 (by omega)
  · rw [e 10]; exact h10
  · rw [e 10] at q
    obtain ⟨g1, X, g2, g3, g4⟩ := hs q
    refine ⟨ey g1, X, ?_, ?_, fun a a0 a1 => ?_⟩
    · rw [e 8]; exact g2
    · rw [e 9]; exact g3
    · by_cases p : a = σ (0, 1) 0
      · have hr : ∀ v, rmF τ 0 a v = 0 := fun v => by
          unfold rmF
          rw [e 2, e 3, p, z0.1, z0.2]
          split <;> rfl
        exact ⟨fun _ w => by rw [hr] at w; exact absurd w (by decide), fun _ w => by rw [hr] at w; exact absurd w (by decide)⟩
      · have hr : ∀ v, rmF τ 0 a v = rmF σ 0 a v := fun v => by
          unfold rmF
          rw [(t2 a a0 (by omega)).1, e 2, e 3]
        rw [(t2 a a0 (by omega)).1, (t2 a a0 (by omega)).2, hr, hr]
        exact g4 a a0 (by omega)
  · rw [e 2, e 3]
    exact hz a (by omega) a1
/-- what a new arc leaves as it is -/
def aaP (σ τ : Mem) (f g c : Int) : Prop := (∀ h k : Nat, h < 6 → h ≠ 0 → h ≠ 1 → τ (h, k) = σ (h, k)) ∧ τ (0, 0) = σ (0, 0) ∧ τ (0, 1) 0 = σ (0, 1) 0 + 1 ∧ (∀ j, τ (0, 2) j = if j = σ (0, 1) 0 then f else σ (0, 2) j) ∧ (∀ j, τ (0, 3) j = if j = σ (0, 1) 0 then g else σ (0, 3) j) ∧ (∀ j, τ (6, 2) j = if j = σ (0, 1) 0 then c else σ (6, 2) j) ∧ τ (6, 8) = σ (6, 8) ∧ τ (6, 9) = σ (6, 9)
theorem aa_of {σ υ τ : Mem} {f g c : Int} (h : fnOk σ) (hc : 0 ≤ c ∧ c ≤ 1000000) (k : maP σ υ f g) (k2 : ccP υ τ 0 (σ (0, 1) 0) c) : fnOk τ ∧ aaP σ τ f g c := by
  obtain ⟨a0, a1, a2, a3, a4, -, -⟩ := k
  obtain ⟨b0, b1, b2⟩ := k2
  have o : ∀ h k : Nat, h < 6 → τ (h, k) = υ (h, k) := fun h k hh => b1.1 h k (Or.inl (by omega))
  have p : ∀ h k : Nat, h < 6 → h ≠ 0 → h ≠ 1 → τ (h, k) = σ (h, k) := fun h k hh h0 h1 => (o h k hh).trans (a0 h k h0 h1)
  have e2 : ∀ j, τ (6, 2) j = if j = σ (0, 1) 0 then c else σ (6, 2) j := fun j => by
    refine (b2 j).trans ?_
    rw [show υ (0 + 6, 2) = σ (6, 2) from a0 6 2 (by decide) (by decide)]
  have e0 : τ (0, 0) = σ (0, 0) := (o 0 0 (by decide)).trans a1
  refine ⟨⟨b0, fun j j0 j1 => ?_, ⟨?_, ?_, ?_⟩, ?_⟩, p, e0, ?_, fun j => ?_, fun j => ?_, e2, (b1.own 8).trans (a0 _ 8 (by decide) (by decide)), (b1.own 9).trans (a0 _ 9 (by decide) (by decide))⟩
  · rw [e2]
    split
    · exact hc
    · exact h.2.1 j j0 j1
  · rw [p 3 0 (by decide) (by decide) (by decide)]; exact h.2.2.1.1
  · rw [p 3 0 (by decide) (by decide) (by decide), p 3 1 (by decide) (by decide) (by decide), p 3 2 (by decide) (by decide) (by decide), e0]; exact h.2.2.1.2.1
  · have e' : ∀ v : Nat, τ (2, v) = σ (2, v) := fun v => p 2 v (by decide) (by decide) (by decide)
    simp only [p 3 0 (by decide) (by decide) (by decide), e']
    exact h.2.2.1.2.2
  · have := h.2.2.2
    unfold cuOk at this ⊢
    rw [p 3 4 (by decide) (by decide) (by decide)]
    exact this
  · rw [o 0 1 (by decide)]; exact a2
  · rw [o 0 2 (by decide)]; exact a3 j
  · rw [o 0 3 (by decide)]; exact a4 j

theorem dc_X4_makeNode : dcl yX4_makeNode 0 := ⟨by decide, by decide, by decide +kernel⟩
theorem dc_X4_makeArc : dcl yX4_makeArc 2 := ⟨by decide, by decide, by decide +kernel⟩
theorem dc_X4_attach : dcl yX4_attach 2 := ⟨by decide, by decide, by decide +kernel⟩




set_option maxHeartbeats 4000000 in
set_option maxRecDepth 100000 in
theorem c_X4_makeNode (l : Launch) (D : va_G) (cs : Nat → ClassId) (ad : Ix → Nat) (hap : Apart idsF ad) {σ : Mem} (hN : NetOk σ) : CI l D cs idsF ad yX4_makeNode cX4_makeNode 1 .int 0 [(.ref (ad (0, 0)))] σ (fun z τ => anP σ τ ∧ z = σ (0, 0) 0) := by
  refine CI.of RX4 hap idsF_nd (by decide) rfl (Nat.le_of_ble_eq_true rfl) ?_
  intro pg ev s0 mi av bl mt cd X K hr
  have hn := hN.1
  refine zr_aloadn X dX4_makeNode_0 rfl ?_
  refine zr_dup X dX4_makeNode_1 rfl ?_
  refine zr_get X K (C := RX4) (T := TX4) (N := 6) (k := 0) mF_0_0 rfl rfl ti_4 (by decide) rfl tw_33 rfl dX4_makeNode_2 ?_
  refine zr_iconst X dX4_makeNode_5 ?_
  refine zr_iadd X dX4_makeNode_6 ?_
  refine zr_put X K (q := (0, 0)) (C := RX4) (T := TX4) (ty0 := tyX4) (N := 6) (k := 0) mF_0_0 (fun _ => rfl) (by simp [mset]) rfl rfl ti_4 tyX4_ok nmX4 (by decide) rfl tw_33 rfl rfl rfl (Nat.le_of_ble_eq_true rfl) dX4_makeNode_7 ?_
  generalize hm_σ1 : mset σ (0, 0) 0 ((σ (0, 0) 0) + 1) = σ1
  refine zr_aloadn X dX4_makeNode_10 rfl ?_
  refine zr_get X K (C := RX4) (T := TX4) (N := 6) (k := 0) mF_0_0 rfl rfl ti_4 (by decide) rfl tw_33 rfl dX4_makeNode_11 ?_
  refine zr_iconst X dX4_makeNode_14 ?_
  refine zr_isub X dX4_makeNode_15 ?_
  refine zr_iret X hr dX4_makeNode_16 ?_
  exact ⟨⟨fun q hq => by rw [← hm_σ1]; exact mset_id hq, by rw [← hm_σ1, mset_same]⟩, by rw [← hm_σ1, mset_same]; omega⟩

set_option maxHeartbeats 4000000 in
set_option maxRecDepth 100000 in
theorem c_X6_addNode (l : Launch) (D : va_G) (cs : Nat → ClassId) (ad : Ix → Nat) (hap : Apart idsF ad) (hl : l.stackTraces = false) {σ : Mem} (h : fnOk σ) (sz : Nat) : CXI l D cs idsF ad yX6_addNode cX6_addNode 1 .int 7 8 48 sz [(.ref (ad (3, 7)))] σ (fun z τ => fnOk τ ∧ σ (0, 0) 0 < 24 ∧ anP σ τ ∧ z = σ (0, 0) 0) ((fun E => E = ISE ∧ σ (0, 0) 0 = 24)) := by
  refine CXI.of RX6 hl hap idsF_nd (by decide) rfl (Nat.le_of_ble_eq_true rfl) ?_
  intro pg ev s0 mi av bl mt cd X K T hr
  have hN := h.net
  have hn := hN.1
  have hm := hN.2.1
  refine zr_aloadn X dX6_addNode_0 rfl ?_
  refine zr_get X K (C := RX6) (T := TX6) (N := 5) (k := 0) mF_3_7 rfl rfl ti_6 (by decide) rfl tw_179 rfl dX6_addNode_1 ?_
  refine zr_getN X K (C := RX4) (T := TX4) (N := 6) (k := 0) mF_0_0 rfl rfl ti_4 (by decide) rfl tn_34 rfl dX6_addNode_4 ?_
  refine zr_bipush X dX6_addNode_7 rfl ?_
  refine zr_icmp_lt X 22 dX6_addNode_9 (by decide) ⟨by omega, by omega⟩ ⟨by omega, by omega⟩ (fun t_9 => ?_) (fun f_9 => ?_)
  · refine zr_aloadn X dX6_addNode_22 rfl ?_
    refine zr_get X K (C := RX6) (T := TX6) (N := 5) (k := 0) mF_3_7 rfl rfl ti_6 (by decide) rfl tw_179 rfl dX6_addNode_23 ?_
    refine zr_callNI X K (q := (RX4, TX4, 6)) (st := []) (c_X4_makeNode l D cs ad hap (σ := σ) hN) ⟨tn_517, tw_519, tp_31, tw_2, tw_520⟩ dc_X4_makeNode mF_0_0 rfl rfl rfl rfl rfl (Nat.le_of_ble_eq_true rfl) (by decide) dX6_addNode_26 ?_
    intro z τ hp
    obtain ⟨hp, hz⟩ := hp
    refine zr_xiret X ⟨by decide, by decide⟩ hr dX6_addNode_29 ?_
    exact ⟨an_ok h (by omega) hp, by omega, hp, hz⟩
  · exact zr_throw (E := ISE) (tx := "there are 24 nodes") X K T st_48 tw_390 tw_11 xat_ISE xgd_ISE (by decide +kernel) dX6_addNode_12 dX6_addNode_15 dX6_addNode_16 dX6_addNode_18 dX6_addNode_21 ⟨Nat.le_of_ble_eq_true rfl, Nat.le_of_ble_eq_true rfl, Nat.le_of_ble_eq_true rfl, Nat.le_of_ble_eq_true rfl⟩ ⟨by decide, by decide⟩ ⟨rfl, by omega⟩

set_option maxHeartbeats 4000000 in
set_option maxRecDepth 100000 in
theorem c_X4_attach (l : Launch) (D : va_G) (cs : Nat → ClassId) (ad : Ix → Nat) (hap : Apart idsF ad) {σ : Mem} {a v : Int} (hv : 0 ≤ v ∧ v < 24) (hd : 0 ≤ σ (0, 4) v ∧ σ (0, 4) v < 80) : CV l D cs idsF ad yX4_attach cX4_attach 3 0 [(.ref (ad (0, 0))), (jI a), (jI v)] σ (fun τ => atP σ τ v a) := by
  refine CV.of RX4 hap idsF_nd (by decide) rfl (Nat.le_of_ble_eq_true rfl) ?_
  intro pg ev s0 mi av bl mt cd X K hr
  refine zr_aloadn X dX4_attach_0 rfl ?_
  refine zr_get X K (C := RX4) (T := TX4) (N := 6) (k := 5) mF_0_0 rfl rfl ti_4 (by decide) rfl tw_52 rfl dX4_attach_1 ?_
  refine zr_iloadn X dX4_attach_4 rfl ?_
  refine zr_aald X K (n := 24) (f := fun v => ad (1, v)) mF_0_5 rfl (by decide) (by omega) dX4_attach_5 ?_
  refine zr_aloadn X dX4_attach_6 rfl ?_
  refine zr_get X K (C := RX4) (T := TX4) (N := 6) (k := 4) mF_0_0 rfl rfl ti_4 (by decide) rfl tw_50 rfl dX4_attach_7 ?_
  refine zr_iloadn X dX4_attach_10 rfl ?_
  refine zr_iald X K (n := 24) mF_0_4 rfl (by decide) (by omega) dX4_attach_11 ?_
  refine zr_iloadn X dX4_attach_12 rfl ?_
  refine zr_iast X K (n := 80) (mR1 (by omega)) (fun _ => rfl) rfl (by decide) (by omega) dX4_attach_13 ?_
  generalize hm_σ1 : mset σ (1, (v).toNat) (σ (0, 4) v) a = σ1
  have q1 : σ1 (0, 4) = σ (0, 4) := by rw [← hm_σ1]; exact mset_id (fun e => by cases e)
  have q2 := congrFun q1 v
  refine zr_aloadn X dX4_attach_14 rfl ?_
  refine zr_get X K (C := RX4) (T := TX4) (N := 6) (k := 4) mF_0_0 rfl rfl ti_4 (by decide) rfl tw_50 rfl dX4_attach_15 ?_
  refine zr_iloadn X dX4_attach_18 rfl ?_
  refine zr_dup2 X dX4_attach_19 rfl rfl ?_
  refine zr_iald X K (n := 24) mF_0_4 rfl (by decide) (by omega) dX4_attach_20 ?_
  refine zr_iconst X dX4_attach_21 ?_
  refine zr_iadd X dX4_attach_22 ?_
  refine zr_iast X K (n := 24) mF_0_4 (fun _ => rfl) rfl (by decide) (by omega) dX4_attach_23 ?_
  generalize hm_σ2 : mset σ1 (0, 4) v ((σ1 (0, 4) v) + 1) = σ2
  refine zr_vret X hr dX4_attach_24 ?_
  refine ⟨fun q hq1 hq2 => ?_, fun j => ?_, fun i => ?_⟩
  · rw [← hm_σ2, mset_id hq1, ← hm_σ1, mset_id hq2]
  · rw [← hm_σ2, mset_at, q1]
  · rw [← hm_σ2, mset_id (fun e => by cases e), ← hm_σ1, mset_at]

set_option maxHeartbeats 4000000 in
set_option maxRecDepth 100000 in
theorem c_X4_makeArc (l : Launch) (D : va_G) (cs : Nat → ClassId) (ad : Ix → Nat) (hap : Apart idsF ad) {σ : Mem} (hN : NetOk σ) (hA : AdjOk σ) (hm8 : σ (0, 1) 0 < 80) {f g : Int} (hf : 0 ≤ f ∧ f < σ (0, 0) 0) (hg : 0 ≤ g ∧ g < σ (0, 0) 0) (hfg : f ≠ g) : CI l D cs idsF ad yX4_makeArc cX4_makeArc 4 .int 1 [(.ref (ad (0, 0))), (jI f), (jI g)] σ (fun z τ => maP σ τ f g ∧ z = σ (0, 1) 0) := by
  refine CI.of RX4 hap idsF_nd (by decide) rfl (Nat.le_of_ble_eq_true rfl) ?_
  intro pg ev s0 mi av bl mt cd X K hr
  have hn := hN.1
  have hm := hN.2.1
  have df := hA.1 f hf.1 (by omega)
  have dg := hA.1 g hg.1 (by omega)
  refine zr_aloadn X dX4_makeArc_0 rfl ?_
  refine zr_get X K (C := RX4) (T := TX4) (N := 6) (k := 1) mF_0_0 rfl rfl ti_4 (by decide) rfl tw_38 rfl dX4_makeArc_1 ?_
  refine zr_istoren X dX4_makeArc_4 (by decide) rfl ?_
  refine zr_aloadn X dX4_makeArc_5 rfl ?_
  refine zr_dup X dX4_makeArc_6 rfl ?_
  refine zr_get X K (C := RX4) (T := TX4) (N := 6) (k := 1) mF_0_0 rfl rfl ti_4 (by decide) rfl tw_38 rfl dX4_makeArc_7 ?_
  refine zr_iconst X dX4_makeArc_10 ?_
  refine zr_iadd X dX4_makeArc_11 ?_
  refine zr_put X K (q := (0, 1)) (C := RX4) (T := TX4) (ty0 := tyX4) (N := 6) (k := 1) mF_0_0 (fun _ => rfl) (by simp [mset]) rfl rfl ti_4 tyX4_ok nmX4 (by decide) rfl tw_38 rfl rfl rfl (Nat.le_of_ble_eq_true rfl) dX4_makeArc_12 ?_
  generalize hm_σ1 : mset σ (0, 1) 0 ((σ (0, 1) 0) + 1) = σ1
  refine zr_aloadn X dX4_makeArc_15 rfl ?_
  refine zr_get X K (C := RX4) (T := TX4) (N := 6) (k := 2) mF_0_0 rfl rfl ti_4 (by decide) rfl tw_42 rfl dX4_makeArc_16 ?_
  refine zr_iloadn X dX4_makeArc_19 rfl ?_
  refine zr_iloadn X dX4_makeArc_20 rfl ?_
  refine zr_iast X K (n := 80) mF_0_2 (fun _ => rfl) rfl (by decide) (by omega) dX4_makeArc_21 ?_
  generalize hm_σ2 : mset σ1 (0, 2) (σ (0, 1) 0) f = σ2
  refine zr_aloadn X dX4_makeArc_22 rfl ?_
  refine zr_get X K (C := RX4) (T := TX4) (N := 6) (k := 3) mF_0_0 rfl rfl ti_4 (by decide) rfl tw_46 rfl dX4_makeArc_23 ?_
  refine zr_iloadn X dX4_makeArc_26 rfl ?_
  refine zr_iloadn X dX4_makeArc_27 rfl ?_
  refine zr_iast X K (n := 80) mF_0_3 (fun _ => rfl) rfl (by decide) (by omega) dX4_makeArc_28 ?_
  generalize hm_σ3 : mset σ2 (0, 3) (σ (0, 1) 0) g = σ3
  have q3 : σ3 (0, 4) = σ (0, 4) := by rw [← hm_σ3, mset_id (by decide), ← hm_σ2, mset_id (by decide), ← hm_σ1, mset_id (by decide)]
  refine zr_aloadn X dX4_makeArc_29 rfl ?_
  refine zr_iloadn X dX4_makeArc_30 rfl ?_
  refine zr_iloadn X dX4_makeArc_31 rfl ?_
  refine zr_callVV X K (q := (RX4, TX4, 6)) (st := []) (c_X4_attach l D cs ad hap (σ := σ3) (a := σ (0, 1) 0) (v := f) ⟨hf.1, by omega⟩ (by rw [q3]; omega)) ⟨tw_530, tw_532, tp_33, tw_2, tw_533⟩ dc_X4_attach mF_0_0 rfl rfl rfl rfl rfl (Nat.le_of_ble_eq_true rfl) (by decide) dX4_makeArc_32 ?_
  intro σ4 hat1
  have q4 : σ4 (0, 4) g = σ (0, 4) g := by rw [hat1.2.1, if_neg (fun e => hfg e.symm), q3]
  refine zr_aloadn X dX4_makeArc_35 rfl ?_
  refine zr_iloadn X dX4_makeArc_36 rfl ?_
  refine zr_iloadn X dX4_makeArc_37 rfl ?_
  refine zr_callVV X K (q := (RX4, TX4, 6)) (st := []) (c_X4_attach l D cs ad hap (σ := σ4) (a := σ (0, 1) 0) (v := g) ⟨hg.1, by omega⟩ (by rw [q4]; omega)) ⟨tw_530, tw_532, tp_33, tw_2, tw_533⟩ dc_X4_attach mF_0_0 rfl rfl rfl rfl rfl (Nat.le_of_ble_eq_true rfl) (by decide) dX4_makeArc_38 ?_
  intro τ hat2
  refine zr_iloadn X dX4_makeArc_41 rfl ?_
  refine zr_iret X hr dX4_makeArc_42 ?_
  exact ⟨ma_of hf.1 hg.1 hfg hm_σ1 hm_σ2 hm_σ3 hat1 hat2, rfl⟩

set_option maxHeartbeats 4000000 in
set_option maxRecDepth 100000 in
theorem c_X6_addArc (l : Launch) (D : va_G) (cs : Nat → ClassId) (ad : Ix → Nat) (hap : Apart idsF ad) (hl : l.stackTraces = false) {σ : Mem} (h : fnOk σ) {s t c : Int} (hs : rg s) (ht : rg t) (hc : rg c) (sz : Nat) : CXI l D cs idsF ad yX6_addArc cX6_addArc 5 .int 7 8 48 sz [(.ref (ad (3, 7))), (jI s), (jI t), (jI c)] σ (fun z τ => fnOk τ ∧ ((0 ≤ s ∧ s < σ (0, 0) 0) ∧ (0 ≤ t ∧ t < σ (0, 0) 0) ∧ s ≠ t ∧ (0 ≤ c ∧ c ≤ 1000000)) ∧ σ (0, 1) 0 < 80 ∧ aaP σ τ s t c ∧ z = σ (0, 1) 0) ((fun E => (E = IOB ∧ ¬ ((0 ≤ s ∧ s < σ (0, 0) 0) ∧ (0 ≤ t ∧ t < σ (0, 0) 0))) ∨ ((0 ≤ s ∧ s < σ (0, 0) 0) ∧ (0 ≤ t ∧ t < σ (0, 0) 0) ∧ E = IAE ∧ (s = t ∨ ¬ (0 ≤ c ∧ c ≤ 1000000))) ∨ (((0 ≤ s ∧ s < σ (0, 0) 0) ∧ (0 ≤ t ∧ t < σ (0, 0) 0) ∧ s ≠ t ∧ (0 ≤ c ∧ c ≤ 1000000)) ∧ E = ISE ∧ σ (0, 1) 0 = 80))) := by
  refine CXI.of RX6 hl hap idsF_nd (by decide) rfl (Nat.le_of_ble_eq_true rfl) ?_
  intro pg ev s0 mi av bl mt cd X K T hr
  have hN := h.net
  have hn := hN.1
  have hm := hN.2.1
  refine zr_aloadn X dX6_addArc_0 rfl ?_
  refine zr_iloadn X dX6_addArc_1 rfl ?_
  refine zr_xcallVV X K T (q := (RX6, TX6, 5)) (st := []) (fun sz => c_X6_requireNode l D cs ad hap hl (σ := σ) hN (v := s) hs sz) ⟨tw_350, tw_352, tp_14, tw_1, tw_353⟩ dc_X6_requireNode mF_3_7 rfl rfl rfl rfl rfl (Nat.le_of_ble_eq_true rfl) (by decide) dX6_addArc_2 ⟨by decide, by decide⟩ (fun E h => Or.inl ⟨h.1, fun q => h.2 q.1⟩) ?_
  intro τ_ hp_
  obtain ⟨hτ_, hS⟩ := hp_
  subst τ_
  refine zr_aloadn X dX6_addArc_5 rfl ?_
  refine zr_iloadn X dX6_addArc_6 rfl ?_
  refine zr_xcallVV X K T (q := (RX6, TX6, 5)) (st := []) (fun sz => c_X6_requireNode l D cs ad hap hl (σ := σ) hN (v := t) ht sz) ⟨tw_350, tw_352, tp_14, tw_1, tw_353⟩ dc_X6_requireNode mF_3_7 rfl rfl rfl rfl rfl (Nat.le_of_ble_eq_true rfl) (by decide) dX6_addArc_7 ⟨by decide, by decide⟩ (fun E h => Or.inl ⟨h.1, fun q => h.2 q.2⟩) ?_
  intro τ_ hp_
  obtain ⟨hτ_, hT⟩ := hp_
  subst τ_
  refine zr_iloadn X dX6_addArc_10 rfl ?_
  refine zr_iloadn X dX6_addArc_11 rfl ?_
  refine zr_xcallSV X K T (st := []) (fun sz => c_X6_requireDifferent l D cs ad hap hl (σ := σ) (v := s) (w := t) hs ht sz) ⟨tw_369, tw_370, tw_1, tw_371⟩ dc_X6_requireDifferent rfl rfl (Nat.le_of_ble_eq_true rfl) (by decide) dX6_addArc_12 ⟨by decide, by decide⟩ (fun E h => Or.inr (Or.inl ⟨hS, hT, h.1, Or.inl h.2⟩)) ?_
  intro τ_ hp_
  obtain ⟨hτ_, hD⟩ := hp_
  subst τ_
  refine zr_iloadn X dX6_addArc_15 rfl ?_
  refine zr_xcallSV X K T (st := []) (fun sz => c_X6_requireCapacity l D cs ad hap hl (σ := σ) (v := c) hc sz) ⟨tw_271, tw_272, tw_1, tw_273⟩ dc_X6_requireCapacity rfl rfl (Nat.le_of_ble_eq_true rfl) (by decide) dX6_addArc_16 ⟨by decide, by decide⟩ (fun E h => Or.inr (Or.inl ⟨hS, hT, h.1, Or.inr h.2⟩)) ?_
  intro τ_ hp_
  obtain ⟨hτ_, hC⟩ := hp_
  subst τ_
  refine zr_aloadn X dX6_addArc_19 rfl ?_
  refine zr_get X K (C := RX6) (T := TX6) (N := 5) (k := 0) mF_3_7 rfl rfl ti_6 (by decide) rfl tw_179 rfl dX6_addArc_20 ?_
  refine zr_getN X K (C := RX4) (T := TX4) (N := 6) (k := 1) mF_0_0 rfl rfl ti_4 (by decide) rfl tn_39 rfl dX6_addArc_23 ?_
  refine zr_bipush X dX6_addArc_26 rfl ?_
  refine zr_icmp_lt X 41 dX6_addArc_28 (by decide) ⟨by omega, by omega⟩ ⟨by omega, by omega⟩ (fun t_28 => ?_) (fun f_28 => ?_)
  · refine zr_aloadn X dX6_addArc_41 rfl ?_
    refine zr_get X K (C := RX6) (T := TX6) (N := 5) (k := 0) mF_3_7 rfl rfl ti_6 (by decide) rfl tw_179 rfl dX6_addArc_42 ?_
    refine zr_iloadn X dX6_addArc_45 rfl ?_
    refine zr_iloadn X dX6_addArc_46 rfl ?_
    refine zr_callNI X K (q := (RX4, TX4, 6)) (st := []) (c_X4_makeArc l D cs ad hap (σ := σ) hN h.1.1.2.1 (by omega) (f := s) (g := t) hS hT hD) ⟨tn_526, tw_528, tp_32, tw_2, tw_529⟩ dc_X4_makeArc mF_0_0 rfl rfl rfl rfl rfl (Nat.le_of_ble_eq_true rfl) (by decide) dX6_addArc_47 ?_
    intro z υ hp
    obtain ⟨hp, hz⟩ := hp
    subst z
    have hmf := ma_ok h.1 (by omega) hS hT hD hp
    have hm1 : υ (0, 1) 0 = σ (0, 1) 0 + 1 := hp.2.2.1
    refine zr_istore X dX6_addArc_50 (by decide) rfl ?_
    refine zr_aloadn X dX6_addArc_52 rfl ?_
    refine zr_get X K (C := RX6) (T := TX6) (N := 5) (k := 1) mF_3_7 rfl rfl ti_6 (by decide) rfl tw_180 rfl dX6_addArc_53 ?_
    refine zr_iload X dX6_addArc_56 rfl ?_
    refine zr_iloadn X dX6_addArc_58 rfl ?_
    refine zr_callNV X K (q := (RX3, TX3, 6)) (st := []) (c_X3_changeCapacity l D cs ad hap (b := 0) (by decide) (σ := υ) hmf (a := σ (0, 1) 0) (c := c) ⟨by omega, by omega⟩ ⟨hC.1, by omega⟩) ⟨tn_291, tw_293, tp_2, tw_3, tw_294⟩ dc_X3_changeCapacity mF_6_0 rfl rfl rfl rfl rfl (Nat.le_of_ble_eq_true rfl) (by decide) dX6_addArc_59 ?_
    intro τ hcc
    refine zr_iload X dX6_addArc_62 rfl ?_
    refine zr_xiret X ⟨by decide, by decide⟩ hr dX6_addArc_64 ?_
    have hk := aa_of h hC hp hcc
    exact ⟨hk.1, ⟨hS, hT, hD, hC⟩, by omega, hk.2, rfl⟩
  · exact zr_throw (E := ISE) (tx := "there are 80 arcs") X K T st_71 tw_390 tw_11 xat_ISE xgd_ISE (by decide +kernel) dX6_addArc_31 dX6_addArc_34 dX6_addArc_35 dX6_addArc_37 dX6_addArc_40 ⟨Nat.le_of_ble_eq_true rfl, Nat.le_of_ble_eq_true rfl, Nat.le_of_ble_eq_true rfl, Nat.le_of_ble_eq_true rfl⟩ ⟨by decide, by decide⟩ (Or.inr (Or.inr ⟨⟨hS, hT, hD, hC⟩, rfl, by omega⟩))
end
section
/-! answers that are long or double; rows of both -/
abbrev qL (D : va_G) (cs : Nat → ClassId) (ids : List Ix) (ad : Ix → Nat) (Post : Int → Mem → Prop) : Array Value → State → Outcome → State → Prop := va_Ql (fun r (u : Int × Mem) => r = iL u.1 ∧ Post u.1 u.2) (fun u t => Pic D cs ids ad u.2 t.heap) (Rg ids ad)
def CL (l : Launch) (D : va_G) (cs : Nat → ClassId) (ids : List Ix) (ad : Ix → Nat) (y : MethodName) (cc : ByteArray) (nL : Nat) (h : Nat) (as : List Value) (σ : Mem) (Post : Int → Mem → Prop) : Prop :=
  Met l y (wsy y cc nL (some .long)) (rmm h 0 0) (va_Pc as (fun U => Wo D cs ids ad σ U)) (qL D cs ids ad Post) 0 0 (Rg ids ad)
theorem CL.of {l : Launch} {D : va_G} {cs : Nat → ClassId} {ids : List Ix} {ad : Ix → Nat} {y : MethodName} {cc : ByteArray} {nL h : Nat} {as : List Value} {σ : Mem} {Post : Int → Mem → Prop} (own : String) (hap : Apart ids ad) (hnd : ids.Nodup) (hy : plainName y.cls = true) (ho : y.cls = own) (hlen : (lg_sl as).length ≤ nL)
    (body : ∀ (p : Program) (e : Env) (s : State) (m : MethodId) (args : Array Value) (below : List Frame) (meth : Method) (c : Code), Cx p s m args meth c cc nL own → Kx D cs ids ad (Rg ids ad) s → meth.sig.returnType = some .long →
      Wx p l e (rmm h 0 0) s m args below meth c D cs ids ad (Rg ids ad) s.heap nL (MQ below (qL D cs ids ad Post) args s 0 0 (Rg ids ad)) 0 0 σ 0 (entryLo as nL) []) : CL l D cs ids ad y cc nL h as σ Post := by
  refine Met.ofW (cc := cc) (maxL := nL) (ret := some .long) hy rfl ?_
  intro p e s m args below meth c s₁ B hml hv
  obtain ⟨rfl, hP, hK, hN, hX⟩ := hv
  have hts := atoms_spec (ws := wsy y cc nL (some .long)) B.pre
  have hown : s.vm.findClass own = some m.cls := ho ▸ findClass_of_methodNamed B.named
  rw [lg_entry_eq]
  exact body p e s m as.toArray below meth c ⟨B.exec, B.bytes, hml, hown, fun w hw => hts w (List.mem_cons_of_mem _ hw), B.notSynchronized⟩ ⟨hK, hap, fun i hi => ⟨i, hi, rfl⟩, hnd, hN, hX⟩ B.returns s.heap [] _ hP va_S.rf (lo_entry as hlen)
section ZCL
variable {p : Program} {l : Launch} {e : Env} {R : Room} {s : State} {m : MethodId} {args : Array Value} {below : List Frame} {meth : Method} {c : Code} {D : va_G} {cs : Nat → ClassId} {ids : List Ix} {ad : Ix → Nat} {A : Nat → Prop} {H0 : Heap} {nL : Nat} {Q : State → Prop} {mc ms : Nat} {σ : Mem} {pc : Nat} {lo : List (Option Value)} {st : List Value} {cc : ByteArray} {own : String}
theorem zr_callVL (X : Cx p s m args meth c cc nL own) (K : Kx D cs ids ad A s) {y : MethodName} {bytes : ByteArray} {maxL index n h ci : Nat} {o : Ix} {q : vw_C} {fs : List Value} {As st1 : List Value} {Post : Int → Mem → Prop} (hC : CL l D cs ids ad y bytes maxL h (.ref (ad o) :: As) σ Post) (L : lkV own index y bytes maxL (some .long)) (hd : dcl y n) (ho : o ∈ ids) (he : enc cs ad σ o = .inr (ci, fs)) (hc : vwCl[ci]? = some q) (hy : y.cls = q.1) (hst : st1 = As.reverse ++ .ref (ad o) :: st) (hn : As.length = n) (hW : (st.map fun v => v.category).sum ≤ 8) (hR : (h + 1 ≤ R.frames ∧ 8 + (maxL + 11) + (100 + 28 * h) ≤ R.locals) ∧ mc ≤ R.cells ∧ ms ≤ R.slots) (d : decode cc pc = .ok (.invokevirtual index, 3))
    (kk : ∀ (z : Int) (τ : Mem), Post z τ → Wx p l e R s m args below meth c D cs ids ad A H0 nL Q mc ms τ (pc + 3) lo (.long (iL z) :: st)) : Wx p l e R s m args below meth c D cs ids ad A H0 nL Q mc ms σ pc lo st1 := fun H locs ls hP hS hl => by
  subst hst
  refine va_calll (va_runV (As := As) (rest := st) (C := y.cls) ⟨X.1, X.2.1, X.2.2.1, X.2.2.2.1, X.2.2.2.2.1⟩ hC (cb_V X L hd hR.1) (by rw [hy]; exact pre_V K hP ho he hc) rfl hn hl.1 rfl (by show 2 * 0 + _ ≤ 8; omega) d hR.2) hS (fun q _ h => Rg_in K q h) (Rg_in K) (fun r u t H1 locs1 ht _ hw hB _ _ hS1 => ?_)
  obtain ⟨rfl, hp⟩ := hw
  exact kk u.1 u.2 hp H1 locs1 ls (by rw [← ht]; exact hB) hS1 hl
theorem zr_callNL (X : Cx p s m args meth c cc nL own) (K : Kx D cs ids ad A s) {y : MethodName} {host : String} {bytes : ByteArray} {maxL index n h ci : Nat} {o : Ix} {q : vw_C} {fs : List Value} {As st1 : List Value} {Post : Int → Mem → Prop} (hC : CL l D cs ids ad y bytes maxL h (.ref (ad o) :: As) σ Post) (L : lkN own host index y bytes maxL (some .long)) (hd : dcl y n) (ho : o ∈ ids) (he : enc cs ad σ o = .inr (ci, fs)) (hc : vwCl[ci]? = some q) (hy : y.cls = q.1) (hst : st1 = As.reverse ++ .ref (ad o) :: st) (hn : As.length = n) (hW : (st.map fun v => v.category).sum ≤ 8) (hR : (h + 1 ≤ R.frames ∧ 8 + (maxL + 11) + (100 + 28 * h) ≤ R.locals) ∧ mc ≤ R.cells ∧ ms ≤ R.slots) (d : decode cc pc = .ok (.invokevirtual index, 3))
    (kk : ∀ (z : Int) (τ : Mem), Post z τ → Wx p l e R s m args below meth c D cs ids ad A H0 nL Q mc ms τ (pc + 3) lo (.long (iL z) :: st)) : Wx p l e R s m args below meth c D cs ids ad A H0 nL Q mc ms σ pc lo st1 := fun H locs ls hP hS hl => by
  subst hst
  refine va_calll (va_runVN (As := As) (rest := st) (C := y.cls) ⟨X.1, X.2.1, X.2.2.1, X.2.2.2.1, X.2.2.2.2.1⟩ hC (cb_N X K L hd hR.1) (by rw [hy]; exact pre_V K hP ho he hc) rfl hn hl.1 rfl (by show 2 * 0 + _ ≤ 8; omega) d hR.2) hS (fun q _ h => Rg_in K q h) (Rg_in K) (fun r u t H1 locs1 ht _ hw hB _ _ hS1 => ?_)
  obtain ⟨rfl, hp⟩ := hw
  exact kk u.1 u.2 hp H1 locs1 ls (by rw [← ht]; exact hB) hS1 hl
theorem zr_callSL (X : Cx p s m args meth c cc nL own) (K : Kx D cs ids ad A s) {y : MethodName} {bytes : ByteArray} {maxL index n h : Nat} {As st1 : List Value} {Post : Int → Mem → Prop} (hC : CL l D cs ids ad y bytes maxL h As σ Post) (L : lkS own index y bytes maxL (some .long)) (hd : dcl y n) (hst : st1 = As.reverse ++ st) (hn : As.length = n) (hW : (st.map fun v => v.category).sum ≤ 8) (hR : (h + 1 ≤ R.frames ∧ 8 + (maxL + 11) + (100 + 28 * h) ≤ R.locals) ∧ mc ≤ R.cells ∧ ms ≤ R.slots) (d : decode cc pc = .ok (.invokestatic index, 3))
    (kk : ∀ (z : Int) (τ : Mem), Post z τ → Wx p l e R s m args below meth c D cs ids ad A H0 nL Q mc ms τ (pc + 3) lo (.long (iL z) :: st)) : Wx p l e R s m args below meth c D cs ids ad A H0 nL Q mc ms σ pc lo st1 := fun H locs ls hP hS hl => by
  subst hst
  refine va_calll (va_runS (As := As) (rest := st) ⟨X.1, X.2.1, X.2.2.1, X.2.2.2.1, X.2.2.2.2.1⟩ hC (cb_S X L hd hR.1) (pre_S K hP) rfl hn hl.1 rfl (by show 2 * 0 + _ ≤ 8; omega) d hR.2) hS (fun q _ h => Rg_in K q h) (Rg_in K) (fun r u t H1 locs1 ht _ hw hB _ _ hS1 => ?_)
  obtain ⟨rfl, hp⟩ := hw
  exact kk u.1 u.2 hp H1 locs1 ls (by rw [← ht]; exact hB) hS1 hl
theorem zr_callSNL (X : Cx p s m args meth c cc nL own) (K : Kx D cs ids ad A s) {y : MethodName} {host : String} {bytes : ByteArray} {maxL index n h : Nat} {As st1 : List Value} {Post : Int → Mem → Prop} (hC : CL l D cs ids ad y bytes maxL h As σ Post) (L : lkSN own host index y bytes maxL (some .long)) (hd : dcl y n) (hst : st1 = As.reverse ++ st) (hn : As.length = n) (hW : (st.map fun v => v.category).sum ≤ 8) (hR : (h + 1 ≤ R.frames ∧ 8 + (maxL + 11) + (100 + 28 * h) ≤ R.locals) ∧ mc ≤ R.cells ∧ ms ≤ R.slots) (d : decode cc pc = .ok (.invokestatic index, 3))
    (kk : ∀ (z : Int) (τ : Mem), Post z τ → Wx p l e R s m args below meth c D cs ids ad A H0 nL Q mc ms τ (pc + 3) lo (.long (iL z) :: st)) : Wx p l e R s m args below meth c D cs ids ad A H0 nL Q mc ms σ pc lo st1 := fun H locs ls hP hS hl => by
  subst hst
  refine va_calll (va_runSN (As := As) (rest := st) ⟨X.1, X.2.1, X.2.2.1, X.2.2.2.1, X.2.2.2.2.1⟩ hC (cb_SN X K L hd hR.1) (pre_S K hP) rfl hn hl.1 rfl (by show 2 * 0 + _ ≤ 8; omega) d hR.2) hS (fun q _ h => Rg_in K q h) (Rg_in K) (fun r u t H1 locs1 ht _ hw hB _ _ hS1 => ?_)
  obtain ⟨rfl, hp⟩ := hw
  exact kk u.1 u.2 hp H1 locs1 ls (by rw [← ht]; exact hB) hS1 hl
theorem zr_lret (X : Cx p s m args meth c cc nL own) {Post : Int → Mem → Prop} {z : Int} (hr : meth.sig.returnType = some .long) (d : decode cc pc = .ok (.lreturn, 1)) (h : Post z σ) : Wx p l e R s m args below meth c D cs ids ad (Rg ids ad) s.heap nL (MQ below (qL D cs ids ad Post) args s 0 0 (Rg ids ad)) 0 0 σ pc lo [.long (iL z)] := fun H locs ls hP hS hl =>
  W.lret X.1 X.2.1 hr (fun t ht _ => ⟨⟨iL z, (z, σ), rfl, ⟨rfl, h⟩, (by show Pic D cs ids ad σ t.heap; rw [ht]; exact hP)⟩, hS.F ht⟩) hS.2.2 d X.2.2.2.2.2
end ZCL
abbrev qD (D : va_G) (cs : Nat → ClassId) (ids : List Ix) (ad : Ix → Nat) (Post : UInt64 → Mem → Prop) : Array Value → State → Outcome → State → Prop := va_Qd (fun r (u : UInt64 × Mem) => r = u.1 ∧ Post u.1 u.2) (fun u t => Pic D cs ids ad u.2 t.heap) (Rg ids ad)
def CD (l : Launch) (D : va_G) (cs : Nat → ClassId) (ids : List Ix) (ad : Ix → Nat) (y : MethodName) (cc : ByteArray) (nL : Nat) (h : Nat) (as : List Value) (σ : Mem) (Post : UInt64 → Mem → Prop) : Prop :=
  Met l y (wsy y cc nL (some .double)) (rmm h 0 0) (va_Pc as (fun U => Wo D cs ids ad σ U)) (qD D cs ids ad Post) 0 0 (Rg ids ad)
theorem CD.of {l : Launch} {D : va_G} {cs : Nat → ClassId} {ids : List Ix} {ad : Ix → Nat} {y : MethodName} {cc : ByteArray} {nL h : Nat} {as : List Value} {σ : Mem} {Post : UInt64 → Mem → Prop} (own : String) (hap : Apart ids ad) (hnd : ids.Nodup) (hy : plainName y.cls = true) (ho : y.cls = own) (hlen : (lg_sl as).length ≤ nL)
    (body : ∀ (p : Program) (e : Env) (s : State) (m : MethodId) (args : Array Value) (below : List Frame) (meth : Method) (c : Code), Cx p s m args meth c cc nL own → Kx D cs ids ad (Rg ids ad) s → meth.sig.returnType = some .double →
      Wx p l e (rmm h 0 0) s m args below meth c D cs ids ad (Rg ids ad) s.heap nL (MQ below (qD D cs ids ad Post) args s 0 0 (Rg ids ad)) 0 0 σ 0 (entryLo as nL) []) : CD l D cs ids ad y cc nL h as σ Post := by
  refine Met.ofW (cc := cc) (maxL := nL) (ret := some .double) hy rfl ?_
  intro p e s m args below meth c s₁ B hml hv
  obtain ⟨rfl, hP, hK, hN, hX⟩ := hv
  have hts := atoms_spec (ws := wsy y cc nL (some .double)) B.pre
  have hown : s.vm.findClass own = some m.cls := ho ▸ findClass_of_methodNamed B.named
  rw [lg_entry_eq]
  exact body p e s m as.toArray below meth c ⟨B.exec, B.bytes, hml, hown, fun w hw => hts w (List.mem_cons_of_mem _ hw), B.notSynchronized⟩ ⟨hK, hap, fun i hi => ⟨i, hi, rfl⟩, hnd, hN, hX⟩ B.returns s.heap [] _ hP va_S.rf (lo_entry as hlen)
section ZCD
variable {p : Program} {l : Launch} {e : Env} {R : Room} {s : State} {m : MethodId} {args : Array Value} {below : List Frame} {meth : Method} {c : Code} {D : va_G} {cs : Nat → ClassId} {ids : List Ix} {ad : Ix → Nat} {A : Nat → Prop} {H0 : Heap} {nL : Nat} {Q : State → Prop} {mc ms : Nat} {σ : Mem} {pc : Nat} {lo : List (Option Value)} {st : List Value} {cc : ByteArray} {own : String}
theorem zr_callVD (X : Cx p s m args meth c cc nL own) (K : Kx D cs ids ad A s) {y : MethodName} {bytes : ByteArray} {maxL index n h ci : Nat} {o : Ix} {q : vw_C} {fs : List Value} {As st1 : List Value} {Post : UInt64 → Mem → Prop} (hC : CD l D cs ids ad y bytes maxL h (.ref (ad o) :: As) σ Post) (L : lkV own index y bytes maxL (some .double)) (hd : dcl y n) (ho : o ∈ ids) (he : enc cs ad σ o = .inr (ci, fs)) (hc : vwCl[ci]? = some q) (hy : y.cls = q.1) (hst : st1 = As.reverse ++ .ref (ad o) :: st) (hn : As.length = n) (hW : (st.map fun v => v.category).sum ≤ 8) (hR : (h + 1 ≤ R.frames ∧ 8 + (maxL + 11) + (100 + 28 * h) ≤ R.locals) ∧ mc ≤ R.cells ∧ ms ≤ R.slots) (d : decode cc pc = .ok (.invokevirtual index, 3))
    (kk : ∀ (z : UInt64) (τ : Mem), Post z τ → Wx p l e R s m args below meth c D cs ids ad A H0 nL Q mc ms τ (pc + 3) lo (.double z :: st)) : Wx p l e R s m args below meth c D cs ids ad A H0 nL Q mc ms σ pc lo st1 := fun H locs ls hP hS hl => by
  subst hst
  refine va_calld (va_runV (As := As) (rest := st) (C := y.cls) ⟨X.1, X.2.1, X.2.2.1, X.2.2.2.1, X.2.2.2.2.1⟩ hC (cb_V X L hd hR.1) (by rw [hy]; exact pre_V K hP ho he hc) rfl hn hl.1 rfl (by show 2 * 0 + _ ≤ 8; omega) d hR.2) hS (fun q _ h => Rg_in K q h) (Rg_in K) (fun r u t H1 locs1 ht _ hw hB _ _ hS1 => ?_)
  obtain ⟨rfl, hp⟩ := hw
  exact kk u.1 u.2 hp H1 locs1 ls (by rw [← ht]; exact hB) hS1 hl
theorem zr_callND (X : Cx p s m args meth c cc nL own) (K : Kx D cs ids ad A s) {y : MethodName} {host : String} {bytes : ByteArray} {maxL index n h ci : Nat} {o : Ix} {q : vw_C} {fs : List Value} {As st1 : List Value} {Post : UInt64 → Mem → Prop} (hC : CD l D cs ids ad y bytes maxL h (.ref (ad o) :: As) σ Post) (L : lkN own host index y bytes maxL (some .double)) (hd : dcl y n) (ho : o ∈ ids) (he : enc cs ad σ o = .inr (ci, fs)) (hc : vwCl[ci]? = some q) (hy : y.cls = q.1) (hst : st1 = As.reverse ++ .ref (ad o) :: st) (hn : As.length = n) (hW : (st.map fun v => v.category).sum ≤ 8) (hR : (h + 1 ≤ R.frames ∧ 8 + (maxL + 11) + (100 + 28 * h) ≤ R.locals) ∧ mc ≤ R.cells ∧ ms ≤ R.slots) (d : decode cc pc = .ok (.invokevirtual index, 3))
    (kk : ∀ (z : UInt64) (τ : Mem), Post z τ → Wx p l e R s m args below meth c D cs ids ad A H0 nL Q mc ms τ (pc + 3) lo (.double z :: st)) : Wx p l e R s m args below meth c D cs ids ad A H0 nL Q mc ms σ pc lo st1 := fun H locs ls hP hS hl => by
  subst hst
  refine va_calld (va_runVN (As := As) (rest := st) (C := y.cls) ⟨X.1, X.2.1, X.2.2.1, X.2.2.2.1, X.2.2.2.2.1⟩ hC (cb_N X K L hd hR.1) (by rw [hy]; exact pre_V K hP ho he hc) rfl hn hl.1 rfl (by show 2 * 0 + _ ≤ 8; omega) d hR.2) hS (fun q _ h => Rg_in K q h) (Rg_in K) (fun r u t H1 locs1 ht _ hw hB _ _ hS1 => ?_)
  obtain ⟨rfl, hp⟩ := hw
  exact kk u.1 u.2 hp H1 locs1 ls (by rw [← ht]; exact hB) hS1 hl
theorem zr_callSD (X : Cx p s m args meth c cc nL own) (K : Kx D cs ids ad A s) {y : MethodName} {bytes : ByteArray} {maxL index n h : Nat} {As st1 : List Value} {Post : UInt64 → Mem → Prop} (hC : CD l D cs ids ad y bytes maxL h As σ Post) (L : lkS own index y bytes maxL (some .double)) (hd : dcl y n) (hst : st1 = As.reverse ++ st) (hn : As.length = n) (hW : (st.map fun v => v.category).sum ≤ 8) (hR : (h + 1 ≤ R.frames ∧ 8 + (maxL + 11) + (100 + 28 * h) ≤ R.locals) ∧ mc ≤ R.cells ∧ ms ≤ R.slots) (d : decode cc pc = .ok (.invokestatic index, 3))
    (kk : ∀ (z : UInt64) (τ : Mem), Post z τ → Wx p l e R s m args below meth c D cs ids ad A H0 nL Q mc ms τ (pc + 3) lo (.double z :: st)) : Wx p l e R s m args below meth c D cs ids ad A H0 nL Q mc ms σ pc lo st1 := fun H locs ls hP hS hl => by
  subst hst
  refine va_calld (va_runS (As := As) (rest := st) ⟨X.1, X.2.1, X.2.2.1, X.2.2.2.1, X.2.2.2.2.1⟩ hC (cb_S X L hd hR.1) (pre_S K hP) rfl hn hl.1 rfl (by show 2 * 0 + _ ≤ 8; omega) d hR.2) hS (fun q _ h => Rg_in K q h) (Rg_in K) (fun r u t H1 locs1 ht _ hw hB _ _ hS1 => ?_)
  obtain ⟨rfl, hp⟩ := hw
  exact kk u.1 u.2 hp H1 locs1 ls (by rw [← ht]; exact hB) hS1 hl
theorem zr_callSND (X : Cx p s m args meth c cc nL own) (K : Kx D cs ids ad A s) {y : MethodName} {host : String} {bytes : ByteArray} {maxL index n h : Nat} {As st1 : List Value} {Post : UInt64 → Mem → Prop} (hC : CD l D cs ids ad y bytes maxL h As σ Post) (L : lkSN own host index y bytes maxL (some .double)) (hd : dcl y n) (hst : st1 = As.reverse ++ st) (hn : As.length = n) (hW : (st.map fun v => v.category).sum ≤ 8) (hR : (h + 1 ≤ R.frames ∧ 8 + (maxL + 11) + (100 + 28 * h) ≤ R.locals) ∧ mc ≤ R.cells ∧ ms ≤ R.slots) (d : decode cc pc = .ok (.invokestatic index, 3))
    (kk : ∀ (z : UInt64) (τ : Mem), Post z τ → Wx p l e R s m args below meth c D cs ids ad A H0 nL Q mc ms τ (pc + 3) lo (.double z :: st)) : Wx p l e R s m args below meth c D cs ids ad A H0 nL Q mc ms σ pc lo st1 := fun H locs ls hP hS hl => by
  subst hst
  refine va_calld (va_runSN (As := As) (rest := st) ⟨X.1, X.2.1, X.2.2.1, X.2.2.2.1, X.2.2.2.2.1⟩ hC (cb_SN X K L hd hR.1) (pre_S K hP) rfl hn hl.1 rfl (by show 2 * 0 + _ ≤ 8; omega) d hR.2) hS (fun q _ h => Rg_in K q h) (Rg_in K) (fun r u t H1 locs1 ht _ hw hB _ _ hS1 => ?_)
  obtain ⟨rfl, hp⟩ := hw
  exact kk u.1 u.2 hp H1 locs1 ls (by rw [← ht]; exact hB) hS1 hl
theorem zr_dret (X : Cx p s m args meth c cc nL own) {Post : UInt64 → Mem → Prop} {z : UInt64} (hr : meth.sig.returnType = some .double) (d : decode cc pc = .ok (.dreturn, 1)) (h : Post z σ) : Wx p l e R s m args below meth c D cs ids ad (Rg ids ad) s.heap nL (MQ below (qD D cs ids ad Post) args s 0 0 (Rg ids ad)) 0 0 σ pc lo [.double z] := fun H locs ls hP hS hl =>
  W.dret X.1 X.2.1 hr (fun t ht _ => ⟨⟨z, (z, σ), rfl, ⟨rfl, h⟩, (by show Pic D cs ids ad σ t.heap; rw [ht]; exact hP)⟩, hS.F ht⟩) hS.2.2 d X.2.2.2.2.2
end ZCD
section ZFP
variable {p : Program} {l : Launch} {e : Env} {R : Room} {s : State} {m : MethodId} {args : Array Value} {below : List Frame} {meth : Method} {c : Code} {D : va_G} {cs : Nat → ClassId} {ids : List Ix} {ad : Ix → Nat} {A : Nat → Prop} {H0 : Heap} {nL : Nat} {Q : State → Prop} {mc ms : Nat} {σ : Mem} {pc : Nat} {lo : List (Option Value)} {st : List Value} {cc : ByteArray} {own : String}
theorem zr_dadd (X : Cx p s m args meth c cc nL own) {x y : UInt64} (d : decode cc pc = .ok (.dadd, 1)) (hn : vf_n64 (FP.dadd x y)) (k : Wx p l e R s m args below meth c D cs ids ad A H0 nL Q mc ms σ (pc + 1) lo (.double (FP.dadd x y) :: st)) : Wx p l e R s m args below meth c D cs ids ad A H0 nL Q mc ms σ pc lo (.double y :: .double x :: st) := fun H locs ls hP hS hl => lv_dadd X.1 X.2.1 d hn (k H locs ls hP hS hl)
theorem zr_dsub (X : Cx p s m args meth c cc nL own) {x y : UInt64} (d : decode cc pc = .ok (.dsub, 1)) (hn : vf_n64 (FP.dsub x y)) (k : Wx p l e R s m args below meth c D cs ids ad A H0 nL Q mc ms σ (pc + 1) lo (.double (FP.dsub x y) :: st)) : Wx p l e R s m args below meth c D cs ids ad A H0 nL Q mc ms σ pc lo (.double y :: .double x :: st) := fun H locs ls hP hS hl => lv_dsub X.1 X.2.1 d hn (k H locs ls hP hS hl)
theorem zr_dmul (X : Cx p s m args meth c cc nL own) {x y : UInt64} (d : decode cc pc = .ok (.dmul, 1)) (hn : vf_n64 (FP.dmul x y)) (k : Wx p l e R s m args below meth c D cs ids ad A H0 nL Q mc ms σ (pc + 1) lo (.double (FP.dmul x y) :: st)) : Wx p l e R s m args below meth c D cs ids ad A H0 nL Q mc ms σ pc lo (.double y :: .double x :: st) := fun H locs ls hP hS hl => lv_dmul X.1 X.2.1 d hn (k H locs ls hP hS hl)
theorem zr_ddiv (X : Cx p s m args meth c cc nL own) {x y : UInt64} (d : decode cc pc = .ok (.ddiv, 1)) (hn : vf_n64 (FP.ddiv x y)) (k : Wx p l e R s m args below meth c D cs ids ad A H0 nL Q mc ms σ (pc + 1) lo (.double (FP.ddiv x y) :: st)) : Wx p l e R s m args below meth c D cs ids ad A H0 nL Q mc ms σ pc lo (.double y :: .double x :: st) := fun H locs ls hP hS hl => lv_ddiv X.1 X.2.1 d hn (k H locs ls hP hS hl)
theorem zr_i2d (X : Cx p s m args meth c cc nL own) {x : Int32} (d : decode cc pc = .ok (.i2d, 1)) (k : Wx p l e R s m args below meth c D cs ids ad A H0 nL Q mc ms σ (pc + 1) lo (.double (FP.i2d x) :: st)) : Wx p l e R s m args below meth c D cs ids ad A H0 nL Q mc ms σ pc lo (.int x :: st) := fun H locs ls hP hS hl => lv_i2d X.1 X.2.1 d (k H locs ls hP hS hl)
theorem zr_d2i (X : Cx p s m args meth c cc nL own) {x : UInt64} {z : Int} (d : decode cc pc = .ok (.d2i, 1)) (h : FP.d2i x = iI z) (k : Wx p l e R s m args below meth c D cs ids ad A H0 nL Q mc ms σ (pc + 1) lo (jI z :: st)) : Wx p l e R s m args below meth c D cs ids ad A H0 nL Q mc ms σ pc lo (.double x :: st) := fun H locs ls hP hS hl => lv_d2i X.1 X.2.1 d (by rw [h]; exact k H locs ls hP hS hl)
theorem zr_dcmp (X : Cx p s m args meth c cc nL own) {x y : UInt64} {op : CmpOp} {z : Int} (d : decode cc pc = .ok (.dcmp op, 1)) (h : Op.cmpValue (FP.dcmp x y) op = iI z) (k : Wx p l e R s m args below meth c D cs ids ad A H0 nL Q mc ms σ (pc + 1) lo (jI z :: st)) : Wx p l e R s m args below meth c D cs ids ad A H0 nL Q mc ms σ pc lo (.double y :: .double x :: st) := fun H locs ls hP hS hl => lv_dcmp X.1 X.2.1 d (by rw [h]; exact k H locs ls hP hS hl)
theorem zr_land (X : Cx p s m args meth c cc nL own) {x y : Int64} (d : decode cc pc = .ok (.land, 1)) (k : Wx p l e R s m args below meth c D cs ids ad A H0 nL Q mc ms σ (pc + 1) lo (.long (x &&& y) :: st)) : Wx p l e R s m args below meth c D cs ids ad A H0 nL Q mc ms σ pc lo (.long y :: .long x :: st) := fun H locs ls hP hS hl => lv_land X.1 X.2.1 d (k H locs ls hP hS hl)
theorem zr_lor (X : Cx p s m args meth c cc nL own) {x y : Int64} (d : decode cc pc = .ok (.lor, 1)) (k : Wx p l e R s m args below meth c D cs ids ad A H0 nL Q mc ms σ (pc + 1) lo (.long (x ||| y) :: st)) : Wx p l e R s m args below meth c D cs ids ad A H0 nL Q mc ms σ pc lo (.long y :: .long x :: st) := fun H locs ls hP hS hl => lv_lor X.1 X.2.1 d (k H locs ls hP hS hl)
end ZFP
end
section
/-! NUMBERS OF EIGHTHS -/
section FPM
def shD : FP.Core.Datum → FP.Core.Datum
  | .fin s c q => .fin s c (q + 3)
  | d => d
def W8 (i : Int) (d : FP.Core.Datum) : Prop := FP.Core.Whole i (shD d)
theorem inU_sh (c : Nat) (q e : Int) : FP.Core.inUnits c (q + 3) (e + 3) = FP.Core.inUnits c q e := by
  unfold FP.Core.inUnits
  rw [show q + 3 - (e + 3) = q - e by omega]
theorem min_sh (q r : Int) : min (q + 3) (r + 3) = min q r + 3 := by omega
theorem sum_sh (x y : FP.Core.Datum) : FP.Core.exactSum (shD x) (shD y) = shD (FP.Core.exactSum x y) := by
  cases x with
  | nan => cases y <;> rfl
  | inf s =>
    cases y with
    | nan => rfl
    | fin => rfl
    | inf t =>
      show (if s = t then FP.Core.Datum.inf s else .nan) = shD (if s = t then .inf s else .nan)
      split <;> rfl
  | fin s c q =>
    cases y with
    | nan => rfl
    | inf => rfl
    | fin t d r =>
      show FP.Core.Datum.fin (FP.Core.sumSign s t (FP.Core.sumUnits s c (q + 3) t d (r + 3) (min (q + 3) (r + 3)))) (FP.Core.sumUnits s c (q + 3) t d (r + 3) (min (q + 3) (r + 3))).natAbs (min (q + 3) (r + 3)) = FP.Core.Datum.fin (FP.Core.sumSign s t (FP.Core.sumUnits s c q t d r (min q r))) (FP.Core.sumUnits s c q t d r (min q r)).natAbs (min q r + 3)
      have e : FP.Core.sumUnits s c (q + 3) t d (r + 3) (min (q + 3) (r + 3)) = FP.Core.sumUnits s c q t d r (min q r) := by
        unfold FP.Core.sumUnits
        rw [min_sh, inU_sh, inU_sh]
      rw [e, min_sh]
theorem neg_sh (x : FP.Core.Datum) : FP.Core.negate (shD x) = shD (FP.Core.negate x) := by cases x <;> rfl
theorem order_sh (x y : FP.Core.Datum) : FP.Core.order (shD x) (shD y) = FP.Core.order x y := by
  cases x with
  | nan => cases y <;> rfl
  | inf s => cases y <;> rfl
  | fin s c q =>
    cases y with
    | nan => rfl
    | inf => rfl
    | fin t d r =>
      show some (compare (FP.Core.signed s (FP.Core.inUnits c (q + 3) (min (q + 3) (r + 3)))) (FP.Core.signed t (FP.Core.inUnits d (r + 3) (min (q + 3) (r + 3))))) = some (compare (FP.Core.signed s (FP.Core.inUnits c q (min q r))) (FP.Core.signed t (FP.Core.inUnits d r (min q r))))
      rw [min_sh, inU_sh, inU_sh]
theorem prod_sh (x y : FP.Core.Datum) : FP.Core.exactProduct x (shD y) = shD (FP.Core.exactProduct x y) := by
  cases x with
  | nan => cases y <;> rfl
  | inf s =>
    cases y with
    | nan => rfl
    | inf => rfl
    | fin t d r =>
      show (if d = 0 then FP.Core.Datum.nan else .inf (s != t)) = shD (if d = 0 then .nan else .inf (s != t))
      split <;> rfl
  | fin s c q =>
    cases y with
    | nan => rfl
    | inf t =>
      show (if c = 0 then FP.Core.Datum.nan else .inf (s != t)) = shD (if c = 0 then .nan else .inf (s != t))
      split <;> rfl
    | fin t d r =>
      show FP.Core.Datum.fin (s != t) (c * d) (q + (r + 3)) = FP.Core.Datum.fin (s != t) (c * d) (q + r + 3)
      rw [Int.add_assoc]
theorem w8_sum {i j : Int} {x y : FP.Core.Datum} (hx : W8 i x) (hy : W8 j y) : W8 (i + j) (FP.Core.exactSum x y) := by
  unfold W8
  rw [← sum_sh]
  exact FP.Core.whole_sum hx hy
theorem w8_neg {i : Int} {x : FP.Core.Datum} (hx : W8 i x) : W8 (-i) (FP.Core.negate x) := by
  unfold W8
  rw [← neg_sh]
  exact FP.Core.whole_negate hx
theorem w8_prod {i j : Int} {x y : FP.Core.Datum} (hx : FP.Core.Whole i x) (hy : W8 j y) : W8 (i * j) (FP.Core.exactProduct x y) := by
  unfold W8
  rw [← prod_sh]
  exact FP.Core.whole_product hx hy
theorem w8_order {i j : Int} {x y : FP.Core.Datum} (hx : W8 i x) (hy : W8 j y) : FP.Core.order x y = some (compare i j) := by
  rw [← order_sh]
  exact FP.Core.order_whole hx hy
theorem w8_nan {i : Int} {x : FP.Core.Datum} (hx : W8 i x) : x ≠ .nan := fun e => by
  rw [e] at hx
  exact hx
theorem w8_whole {i : Int} {x : FP.Core.Datum} (hx : FP.Core.Whole i x) : W8 (8 * i) x := by
  cases x with
  | nan => exact hx
  | inf => exact hx
  | fin s c q =>
    have hx : FP.Core.signed s (c * 2 ^ q.toNat) = i * ((2 ^ (-q).toNat : Nat) : Int) := hx
    show FP.Core.signed s (c * 2 ^ (q + 3).toNat) = 8 * i * ((2 ^ (-(q + 3)).toNat : Nat) : Int)
    have key : ∀ a b k : Nat, a + k = b + 3 → ((2 ^ a : Nat) : Int) * ((2 ^ k : Nat) : Int) = 8 * ((2 ^ b : Nat) : Int) := fun a b k h => by
      rw [← Int.natCast_mul, ← Nat.pow_add, h, Nat.pow_add]
      show ((2 ^ b * 8 : Nat) : Int) = _
      omega
    by_cases h0 : 0 ≤ q
    · have e1 := key (q + 3).toNat q.toNat 0 (by omega)
      rw [show (-q).toNat = 0 by omega] at hx
      rw [show (-(q + 3)).toNat = 0 by omega]
      have e2 : c * 2 ^ (q + 3).toNat = c * 2 ^ q.toNat * 8 := by rw [show (q + 3).toNat = q.toNat + 3 by omega, Nat.pow_add, Nat.mul_assoc]
      rw [e2, FP.Core.signed_mul, hx]
      show i * ((1 : Nat) : Int) * ((8 : Nat) : Int) = 8 * i * ((1 : Nat) : Int)
      omega
    · by_cases h3 : 0 ≤ q + 3
      · rw [show q.toNat = 0 by omega, Nat.pow_zero, Nat.mul_one] at hx
        rw [show (-(q + 3)).toNat = 0 by omega, FP.Core.signed_mul, hx]
        have e1 := key (-q).toNat 0 (q + 3).toNat (by omega)
        have e2 : ((2 ^ (q + 3).toNat : Nat) : Int) = ((2 ^ (q + 3).toNat : Nat) : Int) := rfl
        rw [Int.mul_assoc, e1]
        show i * (8 * ((1 : Nat) : Int)) = 8 * i * ((1 : Nat) : Int)
        omega
      · rw [show q.toNat = 0 by omega, Nat.pow_zero, Nat.mul_one] at hx
        rw [show (q + 3).toNat = 0 by omega, Nat.pow_zero, Nat.mul_one, hx]
        have e2 : (-q).toNat = (-(q + 3)).toNat + 3 := by omega
        rw [e2, Nat.pow_add]
        show i * ((2 ^ (-(q + 3)).toNat * 8 : Nat) : Int) = _
        rw [Int.natCast_mul, ← Int.mul_assoc, Int.mul_comm 8 i, Int.mul_assoc, Int.mul_assoc, Int.mul_comm 8]
        rfl
/-- the rounded number is that of the whole number of eighths -/
theorem w8_rr {i : Int} {s : Bool} {c : Nat} {q : Int} (h : W8 i (.fin s c q)) : FP.Core.round FP.Core.b64 (.fin s c q) = FP.Core.roundRatio FP.Core.b64 s i.natAbs 1 (-3) := by
  refine FP.Core.roundRatio_congr (by decide) (by decide) ?_
  have h : FP.Core.Whole i (.fin s c (q + 3)) := h
  have := FP.Core.whole_natAbs h
  rw [show (q - -3).toNat = (q + 3).toNat by omega, show (-3 - q).toNat = (-(q + 3)).toNat by omega]
  simpa using this
theorem w8_round {i : Int} (hi : i.natAbs ≤ 2 ^ 53) {d : FP.Core.Datum} (h : W8 i d) : W8 i (FP.Core.round FP.Core.b64 d) := by
  cases d with
  | nan => exact h.elim
  | inf => exact h.elim
  | fin s c q =>
    rw [w8_rr h]
    by_cases h0 : i = 0
    · subst h0
      show W8 0 (if (0 : Int).natAbs = 0 then .fin s 0 FP.Core.b64.qmin else _)
      rw [if_pos (by decide)]
      show FP.Core.signed s (0 * _) = 0 * _
      rw [Nat.zero_mul, FP.Core.signed_zero, Int.zero_mul]
    · obtain ⟨c', q', hfit, hv⟩ := FP.Core.natFit FP.Core.good_b64 FP.Core.wide_b64 s (n := i.natAbs) hi
      obtain ⟨f1, f2, f3, f4⟩ := hfit
      have hq : -53 < q' := by
        refine Int.lt_of_not_ge fun g => ?_
        rw [show (q' - 0).toNat = 0 by omega, Nat.pow_zero, Nat.mul_one, Nat.mul_one] at hv
        have p1 : 2 ^ 53 ≤ 2 ^ (0 - q').toNat := Nat.pow_le_pow_right (by decide) (by omega)
        have p2 : 1 * 2 ^ (0 - q').toNat ≤ i.natAbs * 2 ^ (0 - q').toNat := Nat.mul_le_mul_right _ (by omega)
        have p3 : (2 : Nat) ^ FP.Core.b64.p = 2 ^ 53 := by decide
        omega
      have hqm : FP.Core.b64.qmin = -1074 := by decide
      have hfit2 : FP.Core.fits FP.Core.b64 (.fin s c' (q' - 3)) := ⟨f1, by omega, by omega, f4.elim (fun g => by omega) Or.inr⟩
      rw [FP.Core.roundRatio_exact FP.Core.good_b64 (by decide) hfit2 (by rw [show (-3 - (q' - 3)).toNat = (0 - q').toNat by omega, show (q' - 3 - -3).toNat = (q' - 0).toNat by omega]; exact hv)]
      show FP.Core.signed s (c' * 2 ^ (q' - 3 + 3).toNat) = i * ((2 ^ (-(q' - 3 + 3)).toNat : Nat) : Int)
      rw [show q' - 3 + 3 = q' by omega]
      rw [show (0 - q').toNat = (-q').toNat by omega, show (q' - 0).toNat = q'.toNat by omega, Nat.mul_one] at hv
      rw [← hv, FP.Core.signed_mul]
      congr 1
      have h : FP.Core.Whole i (.fin s c (q + 3)) := h
      rw [FP.Core.whole_sign h h0]
      unfold FP.Core.signed
      by_cases g : i < 0 <;> simp [g] <;> omega
theorem w8_trunc {i : Int} {s : Bool} {c : Nat} {q : Int} (hi : 0 ≤ i) (h : W8 i (.fin s c q)) : FP.Core.truncate s c q = i / 8 := by
  have h : FP.Core.Whole i (.fin s c (q + 3)) := h
  by_cases h0 : i = 0
  · have := (FP.Core.whole_zero h).mpr h0
    subst this
    subst h0
    show FP.Core.signed s (0 * _ / _) = 0
    rw [Nat.zero_mul, Nat.zero_div, FP.Core.signed_zero]
  · have hs := FP.Core.whole_sign h h0
    have hn := FP.Core.whole_natAbs h
    rw [decide_eq_false (by omega)] at hs
    subst hs
    show ((c * 2 ^ q.toNat / 2 ^ (-q).toNat : Nat) : Int) = i / 8
    obtain ⟨n, rfl⟩ := nat_of hi
    rw [Int.natAbs_natCast] at hn
    have goal : c * 2 ^ q.toNat / 2 ^ (-q).toNat = n / 8 := by
      by_cases g0 : 0 ≤ q
      · rw [show (-(q + 3)).toNat = 0 by omega, show (q + 3).toNat = q.toNat + 3 by omega, Nat.pow_add] at hn
        rw [show (-q).toNat = 0 by omega]
        have : c * 2 ^ q.toNat * 8 = n := by rw [Nat.mul_assoc]; simpa using hn
        rw [← this]
        simp
      · by_cases g3 : 0 ≤ q + 3
        · rw [show (-(q + 3)).toNat = 0 by omega, Nat.pow_zero, Nat.mul_one] at hn
          rw [← hn, show q.toNat = 0 by omega, Nat.pow_zero, Nat.mul_one]
          have : (8 : Nat) = 2 ^ (-q).toNat * 2 ^ (q + 3).toNat := by rw [← Nat.pow_add, show (-q).toNat + (q + 3).toNat = 3 by omega]
          rw [this, Nat.mul_div_mul_right _ _ (Nat.two_pow_pos _)]
        · rw [show (q + 3).toNat = 0 by omega, Nat.pow_zero, Nat.mul_one] at hn
          rw [show q.toNat = 0 by omega, Nat.pow_zero, Nat.mul_one, hn, show (-q).toNat = 3 + (-(q + 3)).toNat by omega, Nat.pow_add]
          rw [Nat.mul_div_mul_right _ _ (Nat.two_pow_pos _)]
    rw [goal]
    omega
/-! the numbers themselves -/
def D8 (i : Int) (a : UInt64) : Prop := W8 i (FP.Core.val64 a)
def D1 (i : Int) (a : UInt64) : Prop := FP.Core.Whole i (FP.Core.val64 a)
theorem d8_n {i : Int} {a : UInt64} (h : D8 i a) : vf_n64 a := by
  have h1 := (FP.Core.ne_nan a).mp (w8_nan h)
  unfold vf_n64
  rw [UInt64.le_iff_toNat_le, UInt64.toNat_and]
  have : (0x7fffffffffffffff : UInt64).toNat = 2 ^ 63 - 1 := by decide
  rw [this, Nat.and_two_pow_sub_one_eq_mod]
  exact h1
theorem d8_of {i : Int} {a : UInt64} (h : D1 i a) : D8 (8 * i) a := w8_whole h
theorem d1_i {x : Int} (h : rg x) : D1 x (FP.i2d (iI x)) := by
  have := FP.Core.i2d_int (iI x)
  rw [iI_toInt h] at this
  exact this
theorem d8_mul {i j : Int} {a b : UInt64} (ha : D1 i a) (hb : D8 j b) (h : (i * j).natAbs ≤ 2 ^ 53) : D8 (i * j) (FP.dmul a b) := by
  unfold D8
  rw [show FP.Core.val64 (FP.dmul a b) = _ from FP.Core.val64_dmul a b]
  exact w8_round h (w8_prod ha hb)
theorem d8_add {i j : Int} {a b : UInt64} (ha : D8 i a) (hb : D8 j b) (h : (i + j).natAbs ≤ 2 ^ 53) : D8 (i + j) (FP.dadd a b) := by
  unfold D8
  rw [show FP.Core.val64 (FP.dadd a b) = _ from FP.Core.val64_dadd a b]
  exact w8_round h (w8_sum ha hb)
theorem d8_sub {i j : Int} {a b : UInt64} (ha : D8 i a) (hb : D8 j b) (h : (i - j).natAbs ≤ 2 ^ 53) : D8 (i - j) (FP.dsub a b) := by
  unfold D8
  rw [show FP.Core.val64 (FP.dsub a b) = _ from FP.Core.val64_dsub a b]
  exact w8_round h (w8_sum ha (w8_neg hb))
theorem d8_cmp {i j : Int} {a b : UInt64} {op : CmpOp} (ha : D8 i a) (hb : D8 j b) : Op.cmpValue (FP.dcmp a b) op = iI (if i < j then -1 else if i = j then 0 else 1) := by
  have : FP.dcmp a b = some (compare i j) := w8_order ha hb
  rw [this, FP.Core.compare_ite]
  by_cases h1 : i < j
  · rw [if_pos h1, if_pos h1]; rfl
  · rw [if_neg h1, if_neg h1]
    by_cases h2 : i = j
    · rw [if_pos h2, if_pos h2]; rfl
    · rw [if_neg h2, if_neg h2]; rfl
theorem d8_int {i : Int} {a : UInt64} (h : D8 i a) (h0 : 0 ≤ i) (h1 : i / 8 < 2147483648) : FP.d2i a = iI (i / 8) := by
  show FP.Core.toI (FP.Core.val64 a) = _
  unfold D8 at h
  cases e : FP.Core.val64 a with
  | nan => rw [e] at h; exact h.elim
  | inf => rw [e] at h; exact h.elim
  | fin s c q =>
    rw [e] at h
    show Int32.ofInt (max (-2 ^ 31) (min (2 ^ 31 - 1) (FP.Core.truncate s c q))) = iI (i / 8)
    rw [w8_trunc h0 h]
    unfold iI
    congr 1
    have : (2 : Int) ^ 31 = 2147483648 := by decide
    omega
theorem d8_half : D8 4 4602678819172646912 := by
  have : FP.Core.val64 4602678819172646912 = .fin false (2 ^ 52) (-53) := by decide +kernel
  unfold D8
  rw [this]
  show FP.Core.signed false (2 ^ 52 * 2 ^ ((-53 : Int) + 3).toNat) = 4 * ((2 ^ (-((-53 : Int) + 3)).toNat : Nat) : Int)
  decide +kernel
theorem d8_zero : D8 0 0 := by
  have : FP.Core.val64 0 = .fin false 0 (-1074) := by decide +kernel
  unfold D8
  rw [this]
  show FP.Core.signed false (0 * 2 ^ _) = 0 * _
  rw [Nat.zero_mul, Int.zero_mul]
  rfl
end FPM
end
section
/-! THE CLASS: scale, utilization -/
def cm3 (i j : Int) : Int := if i < j then -1 else if i = j then 0 else 1
theorem cm3_rg {i j : Int} : rg (cm3 i j) := by
  unfold cm3
  split
  · exact ⟨by decide, by decide⟩
  · split <;> exact ⟨by decide, by decide⟩
theorem cm3_gt {i j : Int} : 0 < cm3 i j ↔ j < i := by
  unfold cm3
  split
  · omega
  · split <;> omega
theorem cm3_lt {i j : Int} : cm3 i j < 0 ↔ i < j := by
  unfold cm3
  split
  · omega
  · split <;> omega
theorem cm3_eq {i j : Int} : cm3 i j = 0 ↔ i = j := by
  unfold cm3
  split
  · omega
  · split <;> omega
theorem d8_cm {i j : Int} {a b : UInt64} {op : CmpOp} (ha : D8 i a) (hb : D8 j b) : Op.cmpValue (FP.dcmp a b) op = iI (cm3 i j) := d8_cmp ha hb
theorem d8_1000 : D8 8000 4652007308841189376 := by
  have : FP.Core.val64 4652007308841189376 = .fin false (1000 * 2 ^ 43) (-43) := by decide +kernel
  unfold D8
  rw [this]
  show FP.Core.signed false (1000 * 2 ^ 43 * 2 ^ ((-43 : Int) + 3).toNat) = 8000 * ((2 ^ (-((-43 : Int) + 3)).toNat : Nat) : Int)
  decide +kernel
/-- the nearest whole number, the even one of two -/
def rn8 (n : Int) : Int := if n % 8 < 4 then n / 8 else if 4 < n % 8 then n / 8 + 1 else n / 8 + n / 8 % 2
def scS (c k : Int) : Int := if rn8 (c * k) ≤ 1000000 then rn8 (c * k) else 1000000
theorem ck_rg {c k : Int} (hc : 0 ≤ c ∧ c ≤ 1000000) (hk : 0 ≤ k ∧ k ≤ 8000) : 0 ≤ c * k ∧ c * k ≤ 8000000000 := by
  refine ⟨Int.mul_nonneg hc.1 hk.1, ?_⟩
  calc c * k ≤ 1000000 * k := Int.mul_le_mul_of_nonneg_right hc.2 hk.1
    _ ≤ 8000000000 := by omega
theorem sc_rg {c k : Int} (hc : 0 ≤ c ∧ c ≤ 1000000) (hk : 0 ≤ k ∧ k ≤ 8000) : 0 ≤ scS c k ∧ scS c k ≤ 1000000 := by
  have := ck_rg hc hk
  have h0 : 0 ≤ rn8 (c * k) := by
    unfold rn8
    split
    · omega
    · split <;> omega
  unfold scS
  split <;> omega
def scC (σ : Mem) (v k i : Int) : Int → Int := fun j => if (0 ≤ j ∧ j < i) ∧ σ (0, 2) j = v then scS (σ (6, 2) j) k else σ (6, 2) j
def chF (σ : Mem) (v k a : Int) : Int := if σ (0, 2) a = v ∧ scS (σ (6, 2) a) k ≠ σ (6, 2) a then 1 else 0
def scI (σ υ : Mem) (v k i x : Int) : Prop := mfOk υ 0 ∧ (∀ g q : Nat, g < 6 → υ (g, q) = σ (g, q)) ∧ υ (6, 2) = scC σ v k i ∧ υ (6, 8) = σ (6, 8) ∧ υ (6, 9) = σ (6, 9) ∧ x = sm (chF σ v k) i.toNat
theorem sc_0 {σ : Mem} {v k : Int} (h : fnOk σ) : scI σ σ v k 0 0 := ⟨h.1, fun _ _ _ => rfl, funext fun j => (if_neg (fun q => by omega)).symm, rfl, rfl, rfl⟩
theorem sc_at {σ υ : Mem} {v k i x : Int} (h : scI σ υ v k i x) : υ (6, 2) i = σ (6, 2) i := by
  rw [h.2.2.1]
  exact if_neg (fun q => by omega)
theorem sc_no {σ υ : Mem} {v k i x : Int} (h : scI σ υ v k i x) (hi : 0 ≤ i) (q : ¬ σ (0, 2) i = v ∨ scS (σ (6, 2) i) k = σ (6, 2) i) : scI σ υ v k (i + 1) x := by
  obtain ⟨h1, h2, h3, h4, h5, h6⟩ := h
  refine ⟨h1, h2, ?_, h4, h5, ?_⟩
  · rw [h3]
    funext j
    unfold scC
    by_cases e : j = i
    · subst e
      rw [if_neg (fun g => by omega)]
      by_cases g : σ (0, 2) j = v
      · rw [if_pos ⟨⟨hi, by omega⟩, g⟩]
        exact (q.resolve_left (fun z => z g)).symm
      · rw [if_neg (fun z => g z.2)]
    · by_cases g : (0 ≤ j ∧ j < i) ∧ σ (0, 2) j = v
      · rw [if_pos g, if_pos ⟨⟨g.1.1, by omega⟩, g.2⟩]
      · rw [if_neg g, if_neg (fun z => g ⟨⟨z.1.1, by omega⟩, z.2⟩)]
  · rw [sm_succ hi, ← h6]
    unfold chF
    rw [if_neg (fun g => q.elim (fun z => z g.1) g.2)]
    omega
theorem sc_yes {σ υ τ : Mem} {v k i x : Int} (h : scI σ υ v k i x) (hi : 0 ≤ i) (q1 : σ (0, 2) i = v) (q2 : scS (σ (6, 2) i) k ≠ σ (6, 2) i) (hc : ccP υ τ 0 i (scS (σ (6, 2) i) k)) : scI σ τ v k (i + 1) (x + 1) := by
  obtain ⟨-, h2, h3, h4, h5, h6⟩ := h
  obtain ⟨c1, c2, c3⟩ := hc
  refine ⟨c1, fun g q hg => (c2.1 g q (Or.inl (by omega))).trans (h2 g q hg), ?_, (c2.own 8).trans h4, (c2.own 9).trans h5, ?_⟩
  · funext j
    refine (c3 j).trans ?_
    unfold scC
    by_cases e : j = i
    · rw [if_pos e, e, if_pos ⟨⟨hi, by omega⟩, q1⟩]
    · rw [if_neg e, show υ (0 + 6, 2) = scC σ v k i from h3]
      unfold scC
      by_cases g : (0 ≤ j ∧ j < i) ∧ σ (0, 2) j = v
      · rw [if_pos g, if_pos ⟨⟨g.1.1, by omega⟩, g.2⟩]
      · rw [if_neg g, if_neg (fun z => g ⟨⟨z.1.1, by omega⟩, z.2⟩)]
  · rw [sm_succ hi, ← h6]
    unfold chF
    rw [if_pos ⟨q1, q2⟩]
theorem sc_end {σ υ : Mem} {v k x : Int} (hf : fnOk σ) (hk : 0 ≤ k ∧ k ≤ 8000) (h : scI σ υ v k (σ (0, 1) 0) x) : fnOk υ ∧ keepC σ υ (scC σ v k (σ (0, 1) 0)) := by
  obtain ⟨h1, h2, h3, h4, h5, h6⟩ := h
  have kc : keepC σ υ (scC σ v k (σ (0, 1) 0)) := ⟨h2, h3, h4, h5⟩
  refine ⟨kc.ok hf h1 fun a a0 a1 => ?_, kc⟩
  unfold scC
  split
  · exact sc_rg (hf.2.1 a a0 a1) hk
  · exact hf.2.1 a a0 a1
/-- what leaves the source at most -/
def outF (σ : Mem) : Int := sm (fun a => if σ (0, 2) a = σ (6, 8) 0 then σ (6, 2) a else 0) (σ (0, 1) 0).toNat
theorem out_of {σ : Mem} (hf : fnOk σ) (hE : endsYes σ 0) : sm (coF σ 0 (pI (σ (6, 8) 0))) (σ (0, 1) 0).toNat = outF σ := sm_cong fun a a0 a1 => by
  have hm := hf.net.2.1
  have hs := (ends_of hE).1.1
  have hn := hf.net.2.2 a a0 (by omega)
  show (if bt (pI (σ (6, 8) 0)) (σ (0, 2) a) && !bt (pI (σ (6, 8) 0)) (σ (0, 3) a) then σ (6, 2) a else 0) = _
  rw [bt_p hs hn.1.1, bt_p hs hn.2.1.1]
  by_cases q : σ (0, 2) a = σ (6, 8) 0
  · rw [if_pos q, decide_eq_true q.symm, decide_eq_false (fun e => hn.2.2 (q.trans e))]
    rfl
  · rw [if_neg q, decide_eq_false (fun e => q e.symm)]
    rfl
theorem out_rg {σ : Mem} (hf : fnOk σ) : 0 ≤ outF σ ∧ outF σ ≤ 80000000 := by
  have hm := hf.net.2.1
  refine ⟨sm_nn fun a a0 a1 => ?_, sm_80 (by omega) fun a a0 a1 => ?_⟩
  · have := hf.2.1 a a0 (by omega)
    show 0 ≤ (if σ (0, 2) a = σ (6, 8) 0 then σ (6, 2) a else 0)
    split <;> omega
  · have := hf.2.1 a a0 (by omega)
    show (if σ (0, 2) a = σ (6, 8) 0 then σ (6, 2) a else 0) ≤ 1000000
    split <;> omega
theorem div_n {i j : Int} {a b : UInt64} (ha : D1 i a) (hb : D1 j b) (hj : j ≠ 0) : vf_n64 (FP.ddiv a b) := by
  have h1 : FP.Core.val64 (FP.ddiv a b) ≠ .nan := by
    rw [show FP.Core.val64 (FP.ddiv a b) = _ from FP.Core.val64_ddiv a b]
    unfold D1 at ha hb
    cases ea : FP.Core.val64 a with
    | nan => rw [ea] at ha; exact ha.elim
    | inf => rw [ea] at ha; exact ha.elim
    | fin s c q =>
      cases eb : FP.Core.val64 b with
      | nan => rw [eb] at hb; exact hb.elim
      | inf => rw [eb] at hb; exact hb.elim
      | fin t d r =>
        rw [eb] at hb
        have hd : d ≠ 0 := fun e => hj ((FP.Core.whole_zero hb).mp e)
        show (if d = 0 then (if c = 0 then FP.Core.Datum.nan else .inf (s != t)) else FP.Core.roundRatio FP.Core.b64 (s != t) c d (q - r)) ≠ .nan
        rw [if_neg hd]
        exact FP.Core.roundRatio_ne_nan _ _ _ _ _
  have h1 := (FP.Core.ne_nan _).mp h1
  unfold vf_n64
  rw [UInt64.le_iff_toNat_le, UInt64.toNat_and]
  have : (0x7fffffffffffffff : UInt64).toNat = 2 ^ 63 - 1 := by decide
  rw [this, Nat.and_two_pow_sub_one_eq_mod]
  exact h1
def utS (σ : Mem) (y : UInt64) : Prop := (outF σ = 0 ∧ y = 0) ∨ (outF σ ≠ 0 ∧ ∃ F, mnS σ (σ (6, 2)) (σ (6, 8) 0) (σ (6, 9) 0) F ∧ y = FP.ddiv (FP.i2d (iI F)) (FP.i2d (iI (outF σ))))

theorem dc_X6_scaled : dcl yX6_scaled 2 := ⟨by decide, by decide, by decide +kernel⟩
theorem dc_X6_requireFraction : dcl yX6_requireFraction 1 := ⟨by decide, by decide, by decide +kernel⟩

set_option maxHeartbeats 4000000 in
set_option maxRecDepth 100000 in
theorem c_X6_scaled (l : Launch) (D : va_G) (cs : Nat → ClassId) (ad : Ix → Nat) (hap : Apart idsF ad) {σ : Mem} {c k : Int} {fr : UInt64} (hc : 0 ≤ c ∧ c ≤ 1000000) (hk : 0 ≤ k ∧ k ≤ 8000) (hf : D8 k fr) : CI l D cs idsF ad yX6_scaled cX6_scaled 9 .int 1 [(jI c), (.double (fr))] σ (fun z τ => τ = σ ∧ z = scS c k) := by
  refine CI.of RX6 hap idsF_nd (by decide) rfl (Nat.le_of_ble_eq_true rfl) ?_
  intro pg ev s0 mi av bl mt cd X K hr
  have hck := ck_rg hc hk
  obtain ⟨n, hn⟩ : ∃ n, n = c * k := ⟨_, rfl⟩
  obtain ⟨w, hw⟩ : ∃ w, w = n / 8 := ⟨_, rfl⟩
  obtain ⟨r, hr8⟩ : ∃ r, r = n % 8 := ⟨_, rfl⟩
  have hw0 : 0 ≤ w ∧ w ≤ 1000000000 := by omega
  have hr0 : 0 ≤ r ∧ r < 8 := by omega
  have hP : D8 n (FP.dmul (FP.i2d (iI (c))) (fr)) := by
    rw [hn]
    exact d8_mul (d1_i ⟨by omega, by omega⟩) hf (by omega)
  have hW : D8 (8 * w) (FP.i2d (iI (w))) := d8_of (d1_i ⟨by omega, by omega⟩)
  have hR : D8 r (FP.dsub (FP.dmul (FP.i2d (iI (c))) (fr)) (FP.i2d (iI (w)))) := by
    have := d8_sub hP hW (by omega)
    rwa [show n - 8 * w = r by omega] at this
  refine zr_iloadn X dX6_scaled_0 rfl ?_
  refine zr_i2d X dX6_scaled_1 ?_
  refine zr_dloadn X dX6_scaled_2 rfl ?_
  refine zr_dmul X dX6_scaled_3 (d8_n hP) ?_
  refine zr_dstoren X dX6_scaled_4 (by decide) rfl ?_
  refine zr_dloadn X dX6_scaled_5 rfl ?_
  refine zr_d2i X dX6_scaled_6 (by have := d8_int hP (by omega) (by omega); rw [← hw] at this; exact this) ?_
  refine zr_istore X dX6_scaled_7 (by decide) rfl ?_
  refine zr_dloadn X dX6_scaled_9 rfl ?_
  refine zr_iload X dX6_scaled_10 rfl ?_
  refine zr_i2d X dX6_scaled_12 ?_
  refine zr_dsub X dX6_scaled_13 (d8_n hR) ?_
  refine zr_dstore X dX6_scaled_14 (by decide) rfl ?_
  refine zr_dload X dX6_scaled_16 rfl ?_
  refine zr_ldc2d X dX6_scaled_18 tw_363 ?_
  refine zr_dcmp X dX6_scaled_21 (d8_cm hR d8_half) ?_
  refine zr_if_gt X 42 dX6_scaled_22 (by decide) cm3_rg (fun t_22 => ?_) (fun f_22 => ?_)
  · have h22 : 4 < r := cm3_gt.mp t_22
    refine zr_iconst X dX6_scaled_42 ?_
    refine zr_goto X 47 dX6_scaled_43 (by decide) ?_
    refine zr_istore X dX6_scaled_47 (by decide) rfl ?_
    refine zr_iload X dX6_scaled_49 rfl ?_
    refine zr_if_eq X 61 dX6_scaled_51 (by decide) ⟨by omega, by omega⟩ (fun t_51 => ?_) (fun f_51 => ?_)
    · exact absurd t_51 (by decide)
    · refine zr_iload X dX6_scaled_54 rfl ?_
      refine zr_iconst X dX6_scaled_56 ?_
      refine zr_iadd X dX6_scaled_57 ?_
      refine zr_goto X 63 dX6_scaled_58 (by decide) ?_
      refine zr_ldc (n := 1000000) X dX6_scaled_63 tw_274 rfl ?_
      refine zr_min X tw_364 tw_336 tw_15 tw_337 ⟨Nat.le_of_ble_eq_true rfl, Nat.le_of_ble_eq_true rfl, Nat.le_of_ble_eq_true rfl, Nat.le_of_ble_eq_true rfl⟩ ⟨by omega, by omega⟩ ⟨by omega, by omega⟩ dX6_scaled_65 (fun w_65 h_w_65 => ?_)
      refine zr_iret X hr dX6_scaled_68 ?_
      refine ⟨rfl, ?_⟩
      unfold scS rn8
      rw [← hn, ← hw, ← hr8]
      clear hP hW hR hf
      split <;> split <;> (try split) <;> omega
  · have h22 : ¬ 4 < r := fun g => absurd (cm3_gt.mpr g) (by omega)
    refine zr_dload X dX6_scaled_25 rfl ?_
    refine zr_ldc2d X dX6_scaled_27 tw_363 ?_
    refine zr_dcmp X dX6_scaled_30 (d8_cm hR d8_half) ?_
    refine zr_if_ne X 46 dX6_scaled_31 (by decide) cm3_rg (fun t_31 => ?_) (fun f_31 => ?_)
    · have h31 : ¬ r = 4 := fun g => t_31 (cm3_eq.mpr g)
      refine zr_iconst X dX6_scaled_46 ?_
      refine zr_istore X dX6_scaled_47 (by decide) rfl ?_
      refine zr_iload X dX6_scaled_49 rfl ?_
      refine zr_if_eq X 61 dX6_scaled_51 (by decide) ⟨by omega, by omega⟩ (fun t_51 => ?_) (fun f_51 => ?_)
      · refine zr_iload X dX6_scaled_61 rfl ?_
        refine zr_ldc (n := 1000000) X dX6_scaled_63 tw_274 rfl ?_
        refine zr_min X tw_364 tw_336 tw_15 tw_337 ⟨Nat.le_of_ble_eq_true rfl, Nat.le_of_ble_eq_true rfl, Nat.le_of_ble_eq_true rfl, Nat.le_of_ble_eq_true rfl⟩ ⟨by omega, by omega⟩ ⟨by omega, by omega⟩ dX6_scaled_65 (fun w_65 h_w_65 => ?_)
        refine zr_iret X hr dX6_scaled_68 ?_
        refine ⟨rfl, ?_⟩
        unfold scS rn8
        rw [← hn, ← hw, ← hr8]
        clear hP hW hR hf
        split <;> split <;> (try split) <;> omega
      · exact absurd f_51 (by decide)
    · have h31 : r = 4 := cm3_eq.mp (by omega)
      refine zr_iload X dX6_scaled_34 rfl ?_
      refine zr_iconst X dX6_scaled_36 ?_
      refine zr_iand X dX6_scaled_37 (zb_and1 hw0.1 (by omega)) ?_
      refine zr_iconst X dX6_scaled_38 ?_
      refine zr_icmp_ne X 46 dX6_scaled_39 (by decide) ⟨by omega, by omega⟩ ⟨by omega, by omega⟩ (fun t_39 => ?_) (fun f_39 => ?_)
      · refine zr_iconst X dX6_scaled_46 ?_
        refine zr_istore X dX6_scaled_47 (by decide) rfl ?_
        refine zr_iload X dX6_scaled_49 rfl ?_
        refine zr_if_eq X 61 dX6_scaled_51 (by decide) ⟨by omega, by omega⟩ (fun t_51 => ?_) (fun f_51 => ?_)
        · refine zr_iload X dX6_scaled_61 rfl ?_
          refine zr_ldc (n := 1000000) X dX6_scaled_63 tw_274 rfl ?_
          refine zr_min X tw_364 tw_336 tw_15 tw_337 ⟨Nat.le_of_ble_eq_true rfl, Nat.le_of_ble_eq_true rfl, Nat.le_of_ble_eq_true rfl, Nat.le_of_ble_eq_true rfl⟩ ⟨by omega, by omega⟩ ⟨by omega, by omega⟩ dX6_scaled_65 (fun w_65 h_w_65 => ?_)
          refine zr_iret X hr dX6_scaled_68 ?_
          refine ⟨rfl, ?_⟩
          unfold scS rn8
          rw [← hn, ← hw, ← hr8]
          clear hP hW hR hf
          split <;> split <;> (try split) <;> omega
        · exact absurd f_51 (by decide)
      · refine zr_iconst X dX6_scaled_42 ?_
        refine zr_goto X 47 dX6_scaled_43 (by decide) ?_
        refine zr_istore X dX6_scaled_47 (by decide) rfl ?_
        refine zr_iload X dX6_scaled_49 rfl ?_
        refine zr_if_eq X 61 dX6_scaled_51 (by decide) ⟨by omega, by omega⟩ (fun t_51 => ?_) (fun f_51 => ?_)
        · exact absurd t_51 (by decide)
        · refine zr_iload X dX6_scaled_54 rfl ?_
          refine zr_iconst X dX6_scaled_56 ?_
          refine zr_iadd X dX6_scaled_57 ?_
          refine zr_goto X 63 dX6_scaled_58 (by decide) ?_
          refine zr_ldc (n := 1000000) X dX6_scaled_63 tw_274 rfl ?_
          refine zr_min X tw_364 tw_336 tw_15 tw_337 ⟨Nat.le_of_ble_eq_true rfl, Nat.le_of_ble_eq_true rfl, Nat.le_of_ble_eq_true rfl, Nat.le_of_ble_eq_true rfl⟩ ⟨by omega, by omega⟩ ⟨by omega, by omega⟩ dX6_scaled_65 (fun w_65 h_w_65 => ?_)
          refine zr_iret X hr dX6_scaled_68 ?_
          refine ⟨rfl, ?_⟩
          unfold scS rn8
          rw [← hn, ← hw, ← hr8]
          clear hP hW hR hf
          split <;> split <;> (try split) <;> omega

set_option maxHeartbeats 4000000 in
set_option maxRecDepth 100000 in
theorem c_X6_requireFraction (l : Launch) (D : va_G) (cs : Nat → ClassId) (ad : Ix → Nat) (hap : Apart idsF ad) (hl : l.stackTraces = false) {σ : Mem} {k : Int} {fr : UInt64} (hf : D8 k fr) (sz : Nat) : CXV l D cs idsF ad yX6_requireFraction cX6_requireFraction 3 6 1 6 sz [(.double (fr))] σ (fun τ => τ = σ ∧ 0 ≤ k ∧ k ≤ 8000) ((fun E => E = IAE ∧ ¬ (0 ≤ k ∧ k ≤ 8000))) := by
  refine CXV.of RX6 hl hap idsF_nd (by decide) rfl (Nat.le_of_ble_eq_true rfl) ?_
  intro pg ev s0 mi av bl mt cd X K T hr
  refine zr_dloadn X dX6_requireFraction_0 rfl ?_
  refine zr_dconst0 X dX6_requireFraction_1 ?_
  refine zr_dcmp X dX6_requireFraction_2 (d8_cm hf d8_zero) ?_
  refine zr_if_lt X 18 dX6_requireFraction_3 (by decide) cm3_rg (fun t_3 => ?_) (fun f_3 => ?_)
  · have hx : ¬ (0 ≤ k ∧ k ≤ 8000) := fun g => by have := cm3_lt.mp t_3; omega
    refine zr_iconst X dX6_requireFraction_18 ?_
    refine zr_istoren X dX6_requireFraction_19 (by decide) rfl ?_
    refine zr_iloadn X dX6_requireFraction_20 rfl ?_
    refine zr_if_ne X 34 dX6_requireFraction_21 (by decide) ⟨by omega, by omega⟩ (fun t_21 => ?_) (fun f_21 => ?_)
    · exact absurd t_21 (by decide)
    · exact zr_throw (E := IAE) (tx := "the fraction is not from 0 to 1000") X K T st_216 tw_275 tw_13 xat_IAE xgd_IAE (by decide +kernel) dX6_requireFraction_24 dX6_requireFraction_27 dX6_requireFraction_28 dX6_requireFraction_30 dX6_requireFraction_33 ⟨Nat.le_of_ble_eq_true rfl, Nat.le_of_ble_eq_true rfl, Nat.le_of_ble_eq_true rfl, Nat.le_of_ble_eq_true rfl⟩ ⟨by decide, by decide⟩ ⟨rfl, hx⟩
  · refine zr_dloadn X dX6_requireFraction_6 rfl ?_
    refine zr_ldc2d X dX6_requireFraction_7 tw_358 ?_
    refine zr_dcmp X dX6_requireFraction_10 (d8_cm hf d8_1000) ?_
    refine zr_if_gt X 18 dX6_requireFraction_11 (by decide) cm3_rg (fun t_11 => ?_) (fun f_11 => ?_)
    · have hx : ¬ (0 ≤ k ∧ k ≤ 8000) := fun g => by have := cm3_gt.mp t_11; omega
      refine zr_iconst X dX6_requireFraction_18 ?_
      refine zr_istoren X dX6_requireFraction_19 (by decide) rfl ?_
      refine zr_iloadn X dX6_requireFraction_20 rfl ?_
      refine zr_if_ne X 34 dX6_requireFraction_21 (by decide) ⟨by omega, by omega⟩ (fun t_21 => ?_) (fun f_21 => ?_)
      · exact absurd t_21 (by decide)
      · exact zr_throw (E := IAE) (tx := "the fraction is not from 0 to 1000") X K T st_216 tw_275 tw_13 xat_IAE xgd_IAE (by decide +kernel) dX6_requireFraction_24 dX6_requireFraction_27 dX6_requireFraction_28 dX6_requireFraction_30 dX6_requireFraction_33 ⟨Nat.le_of_ble_eq_true rfl, Nat.le_of_ble_eq_true rfl, Nat.le_of_ble_eq_true rfl, Nat.le_of_ble_eq_true rfl⟩ ⟨by decide, by decide⟩ ⟨rfl, hx⟩
    · have hx : 0 ≤ k ∧ k ≤ 8000 := ⟨Int.not_lt.mp fun g => f_3 (cm3_lt.mpr g), Int.not_lt.mp fun g => absurd (cm3_gt.mpr g) (by omega)⟩
      refine zr_iconst X dX6_requireFraction_14 ?_
      refine zr_goto X 19 dX6_requireFraction_15 (by decide) ?_
      refine zr_istoren X dX6_requireFraction_19 (by decide) rfl ?_
      refine zr_iloadn X dX6_requireFraction_20 rfl ?_
      refine zr_if_ne X 34 dX6_requireFraction_21 (by decide) ⟨by omega, by omega⟩ (fun t_21 => ?_) (fun f_21 => ?_)
      · refine zr_xvret X ⟨by decide, by decide⟩ hr dX6_requireFraction_34 ?_
        exact ⟨rfl, hx⟩
      · exact absurd f_21 (by decide)

set_option maxHeartbeats 4000000 in
set_option maxRecDepth 100000 in
theorem c_X6_scale (l : Launch) (D : va_G) (cs : Nat → ClassId) (ad : Ix → Nat) (hap : Apart idsF ad) (hl : l.stackTraces = false) {σ : Mem} (h : fnOk σ) {v k : Int} {fr : UInt64} (hv : rg v) (hfr : D8 k fr) (sz : Nat) : CXI l D cs idsF ad yX6_scale cX6_scale 8 .int 7 8 48 sz [(.ref (ad (3, 7))), (jI v), (.double (fr))] σ (fun z τ => fnOk τ ∧ keepC σ τ (scC σ v k (σ (0, 1) 0)) ∧ (0 ≤ v ∧ v < σ (0, 0) 0) ∧ (0 ≤ k ∧ k ≤ 8000) ∧ z = sm (chF σ v k) (σ (0, 1) 0).toNat) ((fun E => (E = IOB ∧ ¬ (0 ≤ v ∧ v < σ (0, 0) 0)) ∨ ((0 ≤ v ∧ v < σ (0, 0) 0) ∧ E = IAE ∧ ¬ (0 ≤ k ∧ k ≤ 8000)))) := by
  refine CXI.of RX6 hl hap idsF_nd (by decide) rfl (Nat.le_of_ble_eq_true rfl) ?_
  intro pg ev s0 mi av bl mt cd X K T hr
  have hN := h.net
  have hn := hN.1
  have hm := hN.2.1
  refine zr_aloadn X dX6_scale_0 rfl ?_
  refine zr_iloadn X dX6_scale_1 rfl ?_
  refine zr_xcallVV X K T (q := (RX6, TX6, 5)) (st := []) (fun sz => c_X6_requireNode l D cs ad hap hl (σ := σ) hN (v := v) hv sz) ⟨tw_350, tw_352, tp_14, tw_1, tw_353⟩ dc_X6_requireNode mF_3_7 rfl rfl rfl rfl rfl (Nat.le_of_ble_eq_true rfl) (by decide) dX6_scale_2 ⟨by decide, by decide⟩ (fun E h => Or.inl h) ?_
  intro τ_ hp_
  obtain ⟨hτ_, hV⟩ := hp_
  subst τ_
  refine zr_dloadn X dX6_scale_5 rfl ?_
  refine zr_xcallSV X K T (st := []) (fun sz => c_X6_requireFraction l D cs ad hap hl (σ := σ) hfr sz) ⟨tw_355, tw_356, tw_1, tw_357⟩ dc_X6_requireFraction rfl rfl (Nat.le_of_ble_eq_true rfl) (by decide) dX6_scale_6 ⟨by decide, by decide⟩ (fun E h => Or.inr ⟨hV, h⟩) ?_
  intro τ_ hp_
  obtain ⟨hτ_, hK⟩ := hp_
  subst τ_
  refine zr_iconst X dX6_scale_9 ?_
  refine zr_istore X dX6_scale_10 (by decide) rfl ?_
  refine zr_iconst X dX6_scale_12 ?_
  refine zr_istore X dX6_scale_13 (by decide) rfl ?_
  have loop_15 : ∀ (n_15 : Nat) (x : Int) (i : Int) (υ : Mem), ((0 ≤ i ∧ i ≤ σ (0, 1) 0) ∧ scI σ υ v k i x) → (σ (0, 1) 0 - i).toNat < n_15 → Wx pg l ev (rmm 7 8 48) s0 mi av bl mt cd D cs idsF ad (RgN idsF ad sz) s0.heap 8 (vx_MQ bl (qXI D cs idsF ad sz ((fun z τ => fnOk τ ∧ keepC σ τ (scC σ v k (σ (0, 1) 0)) ∧ (0 ≤ v ∧ v < σ (0, 0) 0) ∧ (0 ≤ k ∧ k ≤ 8000) ∧ z = sm (chF σ v k) (σ (0, 1) 0).toNat))) (xI D cs idsF ad sz σ ((fun E => (E = IOB ∧ ¬ (0 ≤ v ∧ v < σ (0, 0) 0)) ∨ ((0 ≤ v ∧ v < σ (0, 0) 0) ∧ E = IAE ∧ ¬ (0 ≤ k ∧ k ≤ 8000))))) av s0 8 48 (RgN idsF ad sz)) 2 12 υ 15 [some (.ref (ad (3, 7))), some (jI v), some (.double (fr)), none, some (jI x), some (jI i), none, none] [] := by
    intro n_15
    induction n_15 with
    | zero => exact fun x i υ hinv hn => absurd hn (Nat.not_lt_zero _)
    | succ n_15 ih_15 =>
      intro x i υ hI_15 hn_15
      have hi0 := hI_15.1
      have e1 : υ (0, 1) 0 = σ (0, 1) 0 := congrFun (hI_15.2.2.1 0 1 (by decide)) 0
      have e2 : υ (0, 2) i = σ (0, 2) i := congrFun (hI_15.2.2.1 0 2 (by decide)) i
      have ec := sc_at hI_15.2
      refine zr_iload X dX6_scale_15 rfl ?_
      refine zr_aloadn X dX6_scale_17 rfl ?_
      refine zr_get X K (C := RX6) (T := TX6) (N := 5) (k := 0) mF_3_7 rfl rfl ti_6 (by decide) rfl tw_179 rfl dX6_scale_18 ?_
      refine zr_getN X K (C := RX4) (T := TX4) (N := 6) (k := 1) mF_0_0 rfl rfl ti_4 (by decide) rfl tn_39 rfl dX6_scale_21 ?_
      refine zr_icmp_ge X 91 dX6_scale_24 (by decide) ⟨by omega, by omega⟩ ⟨by omega, by omega⟩ (fun t_24 => ?_) (fun f_24 => ?_)
      · refine zr_iload X dX6_scale_91 rfl ?_
        refine zr_xiret X ⟨by decide, by decide⟩ hr dX6_scale_93 ?_
        have hi : i = σ (0, 1) 0 := by omega
        rw [hi] at hI_15
        have hk2 := sc_end h hK hI_15.2
        exact ⟨hk2.1, hk2.2, hV, hK, hI_15.2.2.2.2.2.2⟩
      · have hci := h.2.1 i hi0.1 (by omega)
        have hti := (hN.2.2 i hi0.1 (by omega)).1
        refine zr_aloadn X dX6_scale_27 rfl ?_
        refine zr_get X K (C := RX6) (T := TX6) (N := 5) (k := 1) mF_3_7 rfl rfl ti_6 (by decide) rfl tw_180 rfl dX6_scale_28 ?_
        refine zr_getN X K (v := (.ref (ad (6, 1)))) (C := RX3) (T := TX3) (N := 6) (k := 1) mF_6_0 rfl rfl ti_3 (by decide) rfl tn_124 rfl dX6_scale_31 ?_
        refine zr_getN X K (v := (.ref (ad (6, 2)))) (C := RX1) (T := TX1) (N := 3) (k := 1) mF_6_1 rfl rfl ti_1 (by decide) rfl tn_82 rfl dX6_scale_34 ?_
        refine zr_iload X dX6_scale_37 rfl ?_
        refine zr_iald X K (n := 80) mF_6_2 rfl (by decide) (by omega) dX6_scale_39 ?_
        refine zr_istore X dX6_scale_40 (by decide) rfl ?_
        refine zr_iload X dX6_scale_42 rfl ?_
        refine zr_dloadn X dX6_scale_44 rfl ?_
        refine zr_callSI X K (st := []) (c_X6_scaled l D cs ad hap (σ := υ) (c := υ (6, 2) i) (k := k) (by rw [ec]; exact hci) hK hfr) ⟨tw_360, tw_361, tw_1, tw_362⟩ dc_X6_scaled rfl rfl (Nat.le_of_ble_eq_true rfl) (by decide) dX6_scale_45 ?_
        intro z_ τ_ hp_
        obtain ⟨hτ_, hz_⟩ := hp_
        subst τ_
        subst z_
        rw [ec]
        have hsr := sc_rg hci hK
        refine zr_istore X dX6_scale_48 (by decide) rfl ?_
        refine zr_aloadn X dX6_scale_50 rfl ?_
        refine zr_get X K (C := RX6) (T := TX6) (N := 5) (k := 0) mF_3_7 rfl rfl ti_6 (by decide) rfl tw_179 rfl dX6_scale_51 ?_
        refine zr_getN X K (C := RX4) (T := TX4) (N := 6) (k := 2) mF_0_0 rfl rfl ti_4 (by decide) rfl tn_44 rfl dX6_scale_54 ?_
        refine zr_iload X dX6_scale_57 rfl ?_
        refine zr_iald X K (n := 80) mF_0_2 rfl (by decide) (by omega) dX6_scale_59 ?_
        refine zr_iloadn X dX6_scale_60 rfl ?_
        refine zr_icmp_ne X 85 dX6_scale_61 (by decide) ⟨by omega, by omega⟩ ⟨by omega, by omega⟩ (fun t_61 => ?_) (fun f_61 => ?_)
        · refine zr_iinc X dX6_scale_85 rfl (by decide) rfl ?_
          refine zr_goto X 15 dX6_scale_88 (by decide) ?_
          refine Wx.weak (lo' := [some (.ref (ad (3, 7))), some (jI v), some (.double (fr)), none, some (jI x), some (jI (i + 1)), none, none]) ⟨rfl, rfl, rfl, rfl, rfl, trivial⟩ ?_
          exact ih_15 _ _ _ ⟨⟨by omega, by omega⟩, sc_no hI_15.2 hi0.1 (by omega)⟩ (by omega)
        · refine zr_iload X dX6_scale_64 rfl ?_
          refine zr_iload X dX6_scale_66 rfl ?_
          refine zr_icmp_eq X 85 dX6_scale_68 (by decide) ⟨by omega, by omega⟩ ⟨by omega, by omega⟩ (fun t_68 => ?_) (fun f_68 => ?_)
          · refine zr_iinc X dX6_scale_85 rfl (by decide) rfl ?_
            refine zr_goto X 15 dX6_scale_88 (by decide) ?_
            refine Wx.weak (lo' := [some (.ref (ad (3, 7))), some (jI v), some (.double (fr)), none, some (jI x), some (jI (i + 1)), none, none]) ⟨rfl, rfl, rfl, rfl, rfl, trivial⟩ ?_
            exact ih_15 _ _ _ ⟨⟨by omega, by omega⟩, sc_no hI_15.2 hi0.1 (by omega)⟩ (by omega)
          · refine zr_aloadn X dX6_scale_71 rfl ?_
            refine zr_get X K (C := RX6) (T := TX6) (N := 5) (k := 1) mF_3_7 rfl rfl ti_6 (by decide) rfl tw_180 rfl dX6_scale_72 ?_
            refine zr_iload X dX6_scale_75 rfl ?_
            refine zr_iload X dX6_scale_77 rfl ?_
            refine zr_callNV X K (q := (RX3, TX3, 6)) (st := []) (c_X3_changeCapacity l D cs ad hap (b := 0) (by decide) (σ := υ) hI_15.2.1 (a := i) (c := scS (σ (6, 2) i) k) ⟨hi0.1, by omega⟩ ⟨hsr.1, by omega⟩) ⟨tn_291, tw_293, tp_2, tw_3, tw_294⟩ dc_X3_changeCapacity mF_6_0 rfl rfl rfl rfl rfl (Nat.le_of_ble_eq_true rfl) (by decide) dX6_scale_79 ?_
            intro ω hcc
            refine zr_iinc X dX6_scale_82 rfl (by decide) rfl ?_
            refine zr_iinc X dX6_scale_85 rfl (by decide) rfl ?_
            refine zr_goto X 15 dX6_scale_88 (by decide) ?_
            refine Wx.weak (lo' := [some (.ref (ad (3, 7))), some (jI v), some (.double (fr)), none, some (jI (x + 1)), some (jI (i + 1)), none, none]) ⟨rfl, rfl, rfl, rfl, rfl, trivial⟩ ?_
            exact ih_15 _ _ _ ⟨⟨by omega, by omega⟩, sc_yes hI_15.2 hi0.1 (by omega) (by omega) hcc⟩ (by omega)
  refine Wx.weak (lo' := [some (.ref (ad (3, 7))), some (jI v), some (.double (fr)), none, some (jI 0), some (jI 0), none, none]) ⟨rfl, rfl, rfl, rfl, rfl, trivial⟩ ?_
  exact loop_15 _ _ _ _ ⟨⟨by omega, by omega⟩, sc_0 h⟩ (Nat.lt_succ_self _)
end
section
/-! CUTS OF A SMALL NETWORK: what a walk over all masks tells -/
theorem gcp_on {m : Nat} {tl hd c : Int → Int} {n : Int} (h : ∀ a : Int, 0 ≤ a → a < m → (0 ≤ tl a ∧ tl a < n) ∧ (0 ≤ hd a ∧ hd a < n)) {X Y : Int → Bool} (e : ∀ v, 0 ≤ v → v < n → X v = Y v) : gcp m tl hd c X = gcp m tl hd c Y := sm_cong fun a a0 a1 => by
  obtain ⟨⟨p1, p2⟩, p3, p4⟩ := h a a0 a1
  show (if X (tl a) = true ∧ ¬ X (hd a) = true then c a else 0) = if Y (tl a) = true ∧ ¬ Y (hd a) = true then c a else 0
  rw [e _ p1 p2, e _ p3 p4]
theorem mk5 (X : Int → Bool) : ∃ q : Int, (0 ≤ q ∧ q < 32) ∧ ∀ v, 0 ≤ v → v < 5 → bt q v = X v := by
  have key : ∀ b0 b1 b2 b3 b4 : Bool, ∃ q : Fin 32, bt (q.val : Int) 0 = b0 ∧ bt (q.val : Int) 1 = b1 ∧ bt (q.val : Int) 2 = b2 ∧ bt (q.val : Int) 3 = b3 ∧ bt (q.val : Int) 4 = b4 := by decide +kernel
  obtain ⟨q, h0, h1, h2, h3, h4⟩ := key (X 0) (X 1) (X 2) (X 3) (X 4)
  refine ⟨(q.val : Int), ⟨by omega, by have := q.isLt; omega⟩, fun v v0 v1 => ?_⟩
  rcases (show v = 0 ∨ v = 1 ∨ v = 2 ∨ v = 3 ∨ v = 4 by omega) with rfl | rfl | rfl | rfl | rfl <;> assumption
theorem bt_32 {q v : Int} (h : q < 32) (hv : 5 ≤ v) : bt q v = false := by
  unfold bt
  apply Nat.testBit_lt_two_pow
  calc q.toNat < 2 ^ 5 := by omega
    _ ≤ 2 ^ v.toNat := Nat.pow_le_pow_right (by decide) (by omega)
def aI (a b : Int) : Int := ((a.toNat &&& b.toNat : Nat) : Int)
theorem bt_a {a b v : Int} : bt (aI a b) v = (bt a v && bt b v) := by
  unfold bt aI
  rw [Int.toNat_natCast, Nat.testBit_and]
theorem zb_and {a b : Int} (ha : 0 ≤ a) (hb : 0 ≤ b) : iI a &&& iI b = iI (aI a b) := by
  obtain ⟨k, rfl⟩ := nat_of ha
  obtain ⟨n, rfl⟩ := nat_of hb
  show Int32.ofNat k &&& Int32.ofNat n = Int32.ofNat (k &&& n)
  apply Int32.toBitVec_inj.mp
  apply BitVec.eq_of_getLsbD_eq
  intro i hi
  simp [hi]
theorem aI_le {a b : Int} (ha : 0 ≤ a) (hb : 0 ≤ b) : 0 ≤ aI a b ∧ aI a b ≤ a ∧ aI a b ≤ b := by
  have h1 := Nat.and_le_left (n := a.toNat) (m := b.toNat)
  have h2 := Nat.and_le_right (n := a.toNat) (m := b.toNat)
  unfold aI
  omega
theorem oI_32 {a b : Int} (ha : 0 ≤ a ∧ a < 32) (hb : 0 ≤ b ∧ b < 32) : (0 ≤ oI a b ∧ oI a b < 32) ∧ a ≤ oI a b := by
  have h := Nat.or_lt_two_pow (x := a.toNat) (y := b.toNat) (n := 5) (by omega) (by omega)
  have h1 := Nat.left_le_or (x := a.toNat) (y := b.toNat)
  unfold oI
  omega
theorem gcp_sub {m : Nat} {tl hd c : Int → Int} (hc : ∀ a : Int, 0 ≤ a → a < m → 0 ≤ c a) (X Y : Int → Bool) : gcp m tl hd c (fun v => X v && Y v) + gcp m tl hd c (fun v => X v || Y v) ≤ gcp m tl hd c X + gcp m tl hd c Y := by
  unfold gcp
  rw [← sm_add, ← sm_add]
  refine sm_le fun a a0 a1 => ?_
  have := hc a a0 a1
  show (if (X (tl a) && Y (tl a)) = true ∧ ¬ (X (hd a) && Y (hd a)) = true then c a else 0) + (if (X (tl a) || Y (tl a)) = true ∧ ¬ (X (hd a) || Y (hd a)) = true then c a else 0) ≤ (if X (tl a) = true ∧ ¬ X (hd a) = true then c a else 0) + (if Y (tl a) = true ∧ ¬ Y (hd a) = true then c a else 0)
  cases X (tl a) <;> cases X (hd a) <;> cases Y (tl a) <;> cases Y (hd a) <;> simp <;> omega
theorem sm_single {i x : Int} {n : Nat} (hi : 0 ≤ i ∧ i < n) : sm (fun a => if a = i then x else 0) n = x := by
  have := sm_upd (fun _ => 0) (i := i) (x := x) hi.1 hi.2
  rw [sm_zero] at this
  omega
/-- an arc that leads from one set's rest to the other's -/
theorem gcp_sub2 {m : Nat} {tl hd c : Int → Int} (hc : ∀ a : Int, 0 ≤ a → a < m → 0 ≤ c a) (X Y : Int → Bool) {i : Int} (hi : 0 ≤ i ∧ i < m) (h1 : X (hd i) = true) (h2 : ¬ X (tl i) = true) (h3 : Y (tl i) = true) (h4 : ¬ Y (hd i) = true) : gcp m tl hd c (fun v => X v && Y v) + gcp m tl hd c (fun v => X v || Y v) + c i ≤ gcp m tl hd c X + gcp m tl hd c Y := by
  have key : gcp m tl hd c (fun v => X v && Y v) + gcp m tl hd c (fun v => X v || Y v) + sm (fun a => if a = i then c i else 0) m ≤ gcp m tl hd c X + gcp m tl hd c Y := by
    unfold gcp
    rw [← sm_add, ← sm_add, ← sm_add]
    refine sm_le fun a a0 a1 => ?_
    have := hc a a0 a1
    show (if (X (tl a) && Y (tl a)) = true ∧ ¬ (X (hd a) && Y (hd a)) = true then c a else 0) + (if (X (tl a) || Y (tl a)) = true ∧ ¬ (X (hd a) || Y (hd a)) = true then c a else 0) + (if a = i then c i else 0) ≤ (if X (tl a) = true ∧ ¬ X (hd a) = true then c a else 0) + (if Y (tl a) = true ∧ ¬ Y (hd a) = true then c a else 0)
    by_cases e : a = i
    · subst e
      rw [Bool.not_eq_true] at h2 h4
      rw [h1, h2, h3, h4]
      simp
    · rw [if_neg e]
      cases X (tl a) <;> cases X (hd a) <;> cases Y (tl a) <;> cases Y (hd a) <;> simp <;> omega
  rw [sm_single hi] at key
  exact key
theorem gcp_upd {m : Nat} {tl hd c : Int → Int} {a x : Int} (ha : 0 ≤ a ∧ a < m) (X : Int → Bool) : gcp m tl hd (updC c a x) X = gcp m tl hd c X + (if X (tl a) = true ∧ ¬ X (hd a) = true then x - c a else 0) := by
  have key := sm_upd (fun j => if X (tl j) = true ∧ ¬ X (hd j) = true then c j else 0) (i := a) (x := if X (tl a) = true ∧ ¬ X (hd a) = true then x else 0) ha.1 ha.2
  have e : gcp m tl hd (updC c a x) X = sm (fun j => if j = a then (if X (tl a) = true ∧ ¬ X (hd a) = true then x else 0) else if X (tl j) = true ∧ ¬ X (hd j) = true then c j else 0) m := sm_cong fun j j0 j1 => by
    show (if X (tl j) = true ∧ ¬ X (hd j) = true then updC c a x j else 0) = _
    unfold updC
    by_cases q : j = a
    · rw [if_pos q, if_pos q, q]
    · rw [if_neg q, if_neg q]
  rw [e, key]
  unfold gcp
  split <;> omega
/-! the walk -/
def mI (K : Int → Prop) (cp : Int → Int) (m L A O : Int) : Prop := (0 ≤ m ∧ m ≤ 32) ∧ (((∀ q, 0 ≤ q → q < m → ¬ K q) ∧ L = 2147483647 ∧ A = -1 ∧ O = 0) ∨ ((∃ q, (0 ≤ q ∧ q < m) ∧ K q ∧ cp q = L) ∧ (∀ q, 0 ≤ q → q < m → K q → L ≤ cp q) ∧ (0 ≤ A ∧ A < 32) ∧ (0 ≤ O ∧ O < 32) ∧ (∀ v, 0 ≤ v → (bt A v = true ↔ ∀ q, 0 ≤ q → q < m → K q → cp q = L → bt q v = true)) ∧ ∀ v, 0 ≤ v → (bt O v = true ↔ ∃ q, (0 ≤ q ∧ q < m) ∧ K q ∧ cp q = L ∧ bt q v = true)))
theorem mI_0 {K : Int → Prop} {cp : Int → Int} : mI K cp 0 2147483647 (-1) 0 := ⟨⟨by omega, by omega⟩, Or.inl ⟨fun q h1 h2 => by omega, rfl, rfl, rfl⟩⟩
theorem mI_rg {K : Int → Prop} {cp : Int → Int} (hcp : ∀ q, 0 ≤ cp q ∧ cp q ≤ 80000000) {m L A O : Int} (h : mI K cp m L A O) : (0 ≤ L ∧ L < 2147483648) ∧ (-1 ≤ A ∧ A < 32) ∧ (0 ≤ O ∧ O < 32) := by
  obtain ⟨hm, ⟨-, rfl, rfl, rfl⟩ | ⟨⟨q, -, -, h1⟩, -, hA, hO, -⟩⟩ := h
  · exact ⟨⟨by omega, by omega⟩, ⟨by omega, by omega⟩, ⟨by omega, by omega⟩⟩
  · have := hcp q
    exact ⟨⟨by omega, by omega⟩, ⟨by omega, by omega⟩, hO⟩
theorem mI_no {K : Int → Prop} {cp : Int → Int} {m L A O : Int} (h : mI K cp m L A O) (hm : m < 32) (hn : ∀ _ : K m, cp m ≠ L) (hl : ∀ _ : K m, L ≤ cp m) (h1 : ∀ _ : K m, L ≠ 2147483647) : mI K cp (m + 1) L A O := by
  obtain ⟨hr, ⟨h0, rfl, rfl, rfl⟩ | ⟨⟨q, q1, q2, q3⟩, hL, hA, hO, bA, bO⟩⟩ := h
  · refine ⟨⟨by omega, by omega⟩, Or.inl ⟨fun q a1 a2 k => ?_, rfl, rfl, rfl⟩⟩
    by_cases e : q = m
    · subst e; exact h1 k rfl
    · exact h0 q a1 (by omega) k
  · refine ⟨⟨by omega, by omega⟩, Or.inr ⟨⟨q, ⟨q1.1, by omega⟩, q2, q3⟩, fun r r1 r2 k => ?_, hA, hO, fun v hv => ?_, fun v hv => ?_⟩⟩
    · by_cases e : r = m
      · subst e; exact hl k
      · exact hL r r1 (by omega) k
    · rw [bA v hv]
      constructor
      · intro g r r1 r2 k e
        by_cases e2 : r = m
        · subst e2; exact absurd e (hn k)
        · exact g r r1 (by omega) k e
      · exact fun g r r1 r2 k e => g r r1 (by omega) k e
    · rw [bO v hv]
      constructor
      · rintro ⟨r, r1, k, e, b⟩
        exact ⟨r, ⟨r1.1, by omega⟩, k, e, b⟩
      · rintro ⟨r, r1, k, e, b⟩
        by_cases e2 : r = m
        · subst e2; exact absurd e (hn k)
        · exact ⟨r, ⟨r1.1, by omega⟩, k, e, b⟩
theorem mI_lt {K : Int → Prop} {cp : Int → Int} {m L A O : Int} (h : mI K cp m L A O) (hm : m < 32) (k : K m) (hl : cp m < L) : mI K cp (m + 1) (cp m) m m := by
  have low : ∀ q, 0 ≤ q → q < m → K q → L ≤ cp q := by
    obtain ⟨hr, ⟨h0, rfl, rfl, rfl⟩ | ⟨-, hL, -⟩⟩ := h
    · exact fun q a1 a2 k => absurd k (h0 q a1 a2)
    · exact hL
  have hr := h.1
  have one : ∀ r, 0 ≤ r → r < m + 1 → K r → cp r = cp m → r = m := fun r r1 r2 kr e => by
    by_cases e2 : r = m
    · exact e2
    · have := low r r1 (by omega) kr
      omega
  refine ⟨⟨by omega, by omega⟩, Or.inr ⟨⟨m, ⟨hr.1, by omega⟩, k, rfl⟩, fun r r1 r2 kr => ?_, ⟨hr.1, hm⟩, ⟨hr.1, hm⟩, fun v hv => ?_, fun v hv => ?_⟩⟩
  · by_cases e2 : r = m
    · subst e2; exact Int.le_refl _
    · have := low r r1 (by omega) kr
      omega
  · constructor
    · intro g r r1 r2 kr e
      rw [one r r1 r2 kr e]
      exact g
    · exact fun g => g m hr.1 (by omega) k rfl
  · constructor
    · exact fun g => ⟨m, ⟨hr.1, by omega⟩, k, rfl, g⟩
    · rintro ⟨r, r1, kr, e, b⟩
      rw [one r r1.1 r1.2 kr e] at b
      exact b
theorem mI_eq {K : Int → Prop} {cp : Int → Int} {m L A O : Int} (h : mI K cp m L A O) (hm : m < 32) (k : K m) (hl : cp m = L) (hx : L ≠ 2147483647) : (0 ≤ A ∧ 0 ≤ O) ∧ mI K cp (m + 1) L (aI A m) (oI O m) := by
  obtain ⟨hr, ⟨h0, e, -⟩ | ⟨⟨q, q1, q2, q3⟩, hL, hA, hO, bA, bO⟩⟩ := h
  · exact absurd e hx
  · refine ⟨⟨hA.1, hO.1⟩, ⟨by omega, by omega⟩, Or.inr ⟨⟨q, ⟨q1.1, by omega⟩, q2, q3⟩, fun r r1 r2 kr => ?_, ?_, (oI_32 hO ⟨hr.1, hm⟩).1, fun v hv => ?_, fun v hv => ?_⟩⟩
    · by_cases e : r = m
      · subst e; omega
      · exact hL r r1 (by omega) kr
    · have := aI_le hA.1 hr.1
      omega
    · rw [bt_a, Bool.and_eq_true, bA v hv]
      constructor
      · rintro ⟨g, b⟩ r r1 r2 kr e
        by_cases e2 : r = m
        · rw [e2]; exact b
        · exact g r r1 (by omega) kr e
      · exact fun g => ⟨fun r r1 r2 kr e => g r r1 (by omega) kr e, g m hr.1 (by omega) k hl⟩
    · rw [bt_o, Bool.or_eq_true, bO v hv]
      constructor
      · rintro (⟨r, r1, kr, e, b⟩ | b)
        · exact ⟨r, ⟨r1.1, by omega⟩, kr, e, b⟩
        · exact ⟨m, ⟨hr.1, by omega⟩, k, hl, b⟩
      · rintro ⟨r, r1, kr, e, b⟩
        by_cases e2 : r = m
        · right; rw [← e2]; exact b
        · left; exact ⟨r, ⟨r1.1, by omega⟩, kr, e, b⟩
/-! the least and the greatest of a set of numbers -/
theorem least_of (M : Int → Prop) : ∀ n : Nat, (∃ q, M q ∧ 0 ≤ q ∧ q < n) → ∃ q, M q ∧ 0 ≤ q ∧ ∀ r, M r → 0 ≤ r → q ≤ r
  | 0, ⟨q, _, h1, h2⟩ => by omega
  | n + 1, ⟨q, hq, h1, h2⟩ => by
    by_cases e : ∃ q, M q ∧ 0 ≤ q ∧ q < (n : Int)
    · exact least_of M n e
    · refine ⟨q, hq, h1, fun r hr r0 => ?_⟩
      by_cases g : r < (n : Int)
      · exact absurd ⟨r, hr, r0, g⟩ e
      · omega
theorem greatest_of (M : Int → Prop) (N : Int) (hN : ∀ q, M q → q < N) : ∀ n : Nat, (∃ q, M q ∧ N - n ≤ q) → ∃ q, M q ∧ ∀ r, M r → r ≤ q
  | 0, ⟨q, hq, h1⟩ => by have := hN q hq; omega
  | n + 1, ⟨q, hq, h1⟩ => by
    by_cases e : ∃ q, M q ∧ N - (n : Int) ≤ q
    · exact greatest_of M N hN n e
    · refine ⟨q, hq, fun r hr => ?_⟩
      by_cases g : N - (n : Int) ≤ r
      · exact absurd ⟨r, hr, g⟩ e
      · omega
/-- a mask of a cut -/
def vq (s t q : Int) : Prop := bt q s = true ∧ ¬ bt q t = true
/-- a network of five nodes -/
def n5 (m : Nat) (tl hd c : Int → Int) : Prop := m ≤ 80 ∧ ∀ a : Int, 0 ≤ a → a < m → ((0 ≤ tl a ∧ tl a < 5) ∧ (0 ≤ hd a ∧ hd a < 5)) ∧ (0 ≤ c a ∧ c a ≤ 1000000)
section CUTS
variable {m : Nat} {tl hd c : Int → Int} {s t L A O : Int}
theorem n5_cp (h : n5 m tl hd c) (X : Int → Bool) : 0 ≤ gcp m tl hd c X ∧ gcp m tl hd c X ≤ 80000000 := by
  refine ⟨gcp_nn (fun a a0 a1 => (h.2 a a0 a1).2.1) X, sm_80 h.1 fun a a0 a1 => ?_⟩
  have := (h.2 a a0 a1).2
  show (if X (tl a) = true ∧ ¬ X (hd a) = true then c a else 0) ≤ 1000000
  split <;> omega
theorem n5_on (h : n5 m tl hd c) {X Y : Int → Bool} (e : ∀ v, 0 ≤ v → v < 5 → X v = Y v) : gcp m tl hd c X = gcp m tl hd c Y := gcp_on (fun a a0 a1 => (h.2 a a0 a1).1) e
def mE (m : Nat) (tl hd c : Int → Int) (s t L A O : Int) : Prop := mI (vq s t) (fun q => gcp m tl hd c (bt q)) 32 L A O
theorem mE_two (hs : 0 ≤ s ∧ s < 5) (ht : 0 ≤ t ∧ t < 5) (hst : s ≠ t) (h : mE m tl hd c s t L A O) : (∃ q, (0 ≤ q ∧ q < 32) ∧ vq s t q ∧ gcp m tl hd c (bt q) = L) ∧ (∀ q, 0 ≤ q → q < 32 → vq s t q → L ≤ gcp m tl hd c (bt q)) ∧ (0 ≤ A ∧ A < 32) ∧ (0 ≤ O ∧ O < 32) ∧ (∀ v, 0 ≤ v → (bt A v = true ↔ ∀ q, 0 ≤ q → q < 32 → vq s t q → gcp m tl hd c (bt q) = L → bt q v = true)) ∧ ∀ v, 0 ≤ v → (bt O v = true ↔ ∃ q, (0 ≤ q ∧ q < 32) ∧ vq s t q ∧ gcp m tl hd c (bt q) = L ∧ bt q v = true) := by
  obtain ⟨-, ⟨h0, -⟩ | h⟩ := h
  · obtain ⟨q, q1, q2⟩ := mk5 (fun v => decide (v = s))
    refine absurd ⟨?_, ?_⟩ (h0 q q1.1 q1.2)
    · rw [q2 s hs.1 hs.2]; exact decide_eq_true rfl
    · rw [q2 t ht.1 ht.2]; exact fun e => hst (of_decide_eq_true e).symm
  · exact h
theorem mE_min (hn : n5 m tl hd c) (hs : 0 ≤ s ∧ s < 5) (ht : 0 ≤ t ∧ t < 5) (hst : s ≠ t) (h : mE m tl hd c s t L A O) : isMn m tl hd c s t L := by
  obtain ⟨⟨q, q1, q2, q3⟩, hL, -⟩ := mE_two hs ht hst h
  refine ⟨⟨bt q, q2.1, q2.2, q3⟩, fun X x1 x2 => ?_⟩
  obtain ⟨r, r1, r2⟩ := mk5 X
  rw [← n5_on hn r2]
  exact hL r r1.1 r1.2 ⟨by rw [r2 s hs.1 hs.2]; exact x1, by rw [r2 t ht.1 ht.2]; exact x2⟩
theorem mE_mc (hn : n5 m tl hd c) (hs : 0 ≤ s ∧ s < 5) (ht : 0 ≤ t ∧ t < 5) (hst : s ≠ t) (h : mE m tl hd c s t L A O) {X : Int → Bool} (x1 : X s = true) (x2 : ¬ X t = true) : mcut m tl hd c s t X ↔ gcp m tl hd c X = L := by
  have hM := mE_min hn hs ht hst h
  constructor
  · exact fun k => mcut_val hM k
  · exact fun e => ⟨x1, x2, fun Y y1 y2 => by rw [e]; exact hM.2 Y y1 y2⟩
theorem mE_sm (hn : n5 m tl hd c) (hs : 0 ≤ s ∧ s < 5) (ht : 0 ≤ t ∧ t < 5) (hst : s ≠ t) (h : mE m tl hd c s t L A O) {z : Int} (hz : mk24 z ∧ ∀ v, 0 ≤ v → (bt z v = true ↔ ∀ X, mcut m tl hd c s t X → X v = true)) : z = A := by
  obtain ⟨⟨q, q1, q2, q3⟩, hL, hA, hO, bA, bO⟩ := mE_two hs ht hst h
  refine bt_ext hz.1.1 hA.1 fun v hv => ?_
  rw [Bool.eq_iff_iff, hz.2 v hv, bA v hv]
  constructor
  · intro g r r1 r2 r3 r4
    exact g (bt r) ((mE_mc hn hs ht hst h r3.1 r3.2).mpr r4)
  · intro g X k
    by_cases hv5 : v < 5
    · obtain ⟨r, r1, r2⟩ := mk5 X
      rw [← r2 v hv hv5]
      refine g r r1.1 r1.2 ⟨by rw [r2 s hs.1 hs.2]; exact k.1, by rw [r2 t ht.1 ht.2]; exact k.2.1⟩ ?_
      rw [n5_on hn r2]
      exact (mE_mc hn hs ht hst h k.1 k.2.1).mp k
    · have := g q q1.1 q1.2 q2 q3
      rw [bt_32 q1.2 (by omega)] at this
      cases this
theorem mE_gt (hn : n5 m tl hd c) (hs : 0 ≤ s ∧ s < 5) (ht : 0 ≤ t ∧ t < 5) (hst : s ≠ t) (h : mE m tl hd c s t L A O) {z : Int} (hz : mk24 z ∧ ∀ v, 0 ≤ v → (bt z v = true ↔ v < 5 ∧ ∃ X, mcut m tl hd c s t X ∧ X v = true)) : z = O := by
  obtain ⟨⟨q, q1, q2, q3⟩, hL, hA, hO, bA, bO⟩ := mE_two hs ht hst h
  refine bt_ext hz.1.1 hO.1 fun v hv => ?_
  rw [Bool.eq_iff_iff, hz.2 v hv, bO v hv]
  constructor
  · rintro ⟨hv5, X, k, kv⟩
    obtain ⟨r, r1, r2⟩ := mk5 X
    refine ⟨r, r1, ⟨by rw [r2 s hs.1 hs.2]; exact k.1, by rw [r2 t ht.1 ht.2]; exact k.2.1⟩, ?_, by rw [r2 v hv hv5]; exact kv⟩
    rw [n5_on hn r2]
    exact (mE_mc hn hs ht hst h k.1 k.2.1).mp k
  · rintro ⟨r, r1, r2, r3, r4⟩
    refine ⟨?_, bt r, (mE_mc hn hs ht hst h r2.1 r2.2).mpr r3, r4⟩
    by_cases hv5 : v < 5
    · exact hv5
    · rw [bt_32 r1.2 (by omega)] at r4
      cases r4
/-- two minimum cuts: what both have, and what one of them has -/
theorem mE_lat (hn : n5 m tl hd c) (hs : 0 ≤ s ∧ s < 5) (ht : 0 ≤ t ∧ t < 5) (hst : s ≠ t) (h : mE m tl hd c s t L A O) {q r : Int} (q2 : vq s t q) (q3 : gcp m tl hd c (bt q) = L) (r2 : vq s t r) (r3 : gcp m tl hd c (bt r) = L) : (vq s t (aI q r) ∧ gcp m tl hd c (bt (aI q r)) = L) ∧ vq s t (oI q r) ∧ gcp m tl hd c (bt (oI q r)) = L := by
  have hM := mE_min hn hs ht hst h
  have h1 : bt (aI q r) = fun v => bt q v && bt r v := funext fun v => bt_a
  have h2 : bt (oI q r) = fun v => bt q v || bt r v := funext fun v => bt_o
  have v1 : vq s t (aI q r) := by
    unfold vq
    rw [bt_a, bt_a, q2.1, r2.1]
    refine ⟨rfl, fun e => q2.2 ?_⟩
    rw [Bool.and_eq_true] at e
    exact e.1
  have v2 : vq s t (oI q r) := by
    unfold vq
    rw [bt_o, bt_o, q2.1]
    refine ⟨rfl, fun e => ?_⟩
    rw [Bool.or_eq_true] at e
    exact e.elim q2.2 r2.2
  have g := gcp_sub (fun a a0 a1 => (hn.2 a a0 a1).2.1) (tl := tl) (hd := hd) (bt q) (bt r)
  rw [← h1, ← h2] at g
  have g1 := hM.2 _ v1.1 v1.2
  have g2 := hM.2 _ v2.1 v2.2
  exact ⟨⟨v1, by omega⟩, v2, by omega⟩
theorem mE_A (hn : n5 m tl hd c) (hs : 0 ≤ s ∧ s < 5) (ht : 0 ≤ t ∧ t < 5) (hst : s ≠ t) (h : mE m tl hd c s t L A O) : ((0 ≤ A ∧ A < 32) ∧ vq s t A) ∧ gcp m tl hd c (bt A) = L := by
  obtain ⟨⟨q, q1, q2, q3⟩, hL, hA, hO, bA, bO⟩ := mE_two hs ht hst h
  obtain ⟨p, ⟨p1, p2, p3⟩, -, hp⟩ := least_of (fun q => (0 ≤ q ∧ q < 32) ∧ vq s t q ∧ gcp m tl hd c (bt q) = L) 32 ⟨q, ⟨q1, q2, q3⟩, q1.1, q1.2⟩
  have sub : ∀ r, 0 ≤ r → r < 32 → vq s t r → gcp m tl hd c (bt r) = L → aI p r = p := fun r r0 r1 r2 r3 => by
    have g := (mE_lat hn hs ht hst h p2 p3 r2 r3).1
    have b := aI_le p1.1 r0
    have := hp (aI p r) ⟨⟨b.1, by omega⟩, g.1, g.2⟩ b.1
    omega
  have e : A = p := bt_ext hA.1 p1.1 fun v hv => by
    rw [Bool.eq_iff_iff, bA v hv]
    constructor
    · exact fun g => g p p1.1 p1.2 p2 p3
    · intro g r r0 r1 r2 r3
      rw [← sub r r0 r1 r2 r3, bt_a, Bool.and_eq_true] at g
      exact g.2
  rw [e]
  exact ⟨⟨p1, p2⟩, p3⟩
theorem mE_O (hn : n5 m tl hd c) (hs : 0 ≤ s ∧ s < 5) (ht : 0 ≤ t ∧ t < 5) (hst : s ≠ t) (h : mE m tl hd c s t L A O) : ((0 ≤ O ∧ O < 32) ∧ vq s t O) ∧ gcp m tl hd c (bt O) = L := by
  obtain ⟨⟨q, q1, q2, q3⟩, hL, hA, hO, bA, bO⟩ := mE_two hs ht hst h
  obtain ⟨p, ⟨p1, p2, p3⟩, hp⟩ := greatest_of (fun q => (0 ≤ q ∧ q < 32) ∧ vq s t q ∧ gcp m tl hd c (bt q) = L) 32 (fun q h => h.1.2) 32 ⟨q, ⟨q1, q2, q3⟩, by omega⟩
  have sub : ∀ r, 0 ≤ r → r < 32 → vq s t r → gcp m tl hd c (bt r) = L → oI p r = p := fun r r0 r1 r2 r3 => by
    have g := (mE_lat hn hs ht hst h p2 p3 r2 r3).2
    have b := oI_32 p1 ⟨r0, r1⟩
    have := hp (oI p r) ⟨b.1, g.1, g.2⟩
    omega
  have e : O = p := bt_ext hO.1 p1.1 fun v hv => by
    rw [Bool.eq_iff_iff, bO v hv]
    constructor
    · rintro ⟨r, ⟨r0, r1⟩, r2, r3, r4⟩
      rw [← sub r r0 r1 r2 r3, bt_o, r4, Bool.or_true]
    · exact fun g => ⟨p, p1, p2, p3, g⟩
  rw [e]
  exact ⟨⟨p1, p2⟩, p3⟩
/-! the flows of one arc -/
theorem gf_cut (hc : ∀ a : Int, 0 ≤ a → a < m → 0 ≤ c a) {F z a : Int} (hM : isMn m tl hd c s t F) (ha : 0 ≤ a ∧ a < m) (hz : z = c a ∨ ∃ X : Int → Bool, X (hd a) = true ∧ ¬ X (tl a) = true ∧ ind X s F - ind X t F + z = gcp m tl hd c X) (X : Int → Bool) (x1 : X s = true) (x2 : ¬ X t = true) (x3 : X (tl a) = true) (x4 : ¬ X (hd a) = true) : F ≤ gcp m tl hd c X + (z - c a) := by
  rcases hz with rfl | ⟨Y, y1, y2, y3⟩
  · have := hM.2 X x1 x2
    omega
  · have g := gcp_sub2 hc Y X ha y1 y2 x3 x4
    have n1 := gcp_nn hc (tl := tl) (hd := hd) (fun v => Y v && X v)
    have n2 := gcp_nn hc (tl := tl) (hd := hd) (fun v => Y v || X v)
    rw [Bool.not_eq_true] at x2
    have a1 : ind Y s F ≤ gcp m tl hd c (fun v => Y v && X v) := by
      unfold ind
      split
      · rename_i q
        exact hM.2 (fun v => Y v && X v) (by show (Y s && X s) = true; rw [q, x1]; rfl) (by show ¬ (Y t && X t) = true; rw [x2, Bool.and_false]; decide)
      · exact n1
    have a2 : F - ind Y t F ≤ gcp m tl hd c (fun v => Y v || X v) := by
      unfold ind
      split
      · omega
      · rename_i q
        have := hM.2 (fun v => Y v || X v) (by show (Y s || X s) = true; rw [x1, Bool.or_true]) (by show ¬ (Y t || X t) = true; rw [x2, Bool.or_false]; exact q)
        omega
    omega
theorem gf_nn (hc : ∀ a : Int, 0 ≤ a → a < m → 0 ≤ c a) {F z a : Int} (hM : isMn m tl hd c s t F) (ha : 0 ≤ a ∧ a < m) (hz : z = c a ∨ ∃ X : Int → Bool, X (hd a) = true ∧ ¬ X (tl a) = true ∧ ind X s F - ind X t F + z = gcp m tl hd c X) : 0 ≤ z := by
  have hF : 0 ≤ F := by
    obtain ⟨⟨X, -, -, e⟩, -⟩ := hM
    rw [← e]
    exact gcp_nn hc X
  rcases hz with rfl | ⟨Y, y1, y2, y3⟩
  · exact hc a ha.1 ha.2
  · have n1 := gcp_nn hc (tl := tl) (hd := hd) Y
    by_cases q1 : Y s = true
    · by_cases q2 : Y t = true
      · rw [ind_t q1, ind_t q2] at y3
        omega
      · have := hM.2 Y q1 q2
        rw [ind_t q1, ind_f q2] at y3
        omega
    · by_cases q2 : Y t = true
      · rw [ind_f q1, ind_t q2] at y3
        omega
      · rw [ind_f q1, ind_f q2] at y3
        omega
/-- with the greatest flow of an arc as its capacity the maximum stays -/
theorem gf_with (hc : ∀ a : Int, 0 ≤ a → a < m → 0 ≤ c a) {F z a w : Int} (hM : isMn m tl hd c s t F) (ha : 0 ≤ a ∧ a < m) (hle : z ≤ c a) (hz : z = c a ∨ ∃ X : Int → Bool, X (hd a) = true ∧ ¬ X (tl a) = true ∧ ind X s F - ind X t F + z = gcp m tl hd c X) (hw : isMn m tl hd (updC c a z) s t w) : w = F := by
  have low : ∀ X : Int → Bool, X s = true → ¬ X t = true → F ≤ gcp m tl hd (updC c a z) X := fun X x1 x2 => by
    rw [gcp_upd ha]
    split
    · rename_i q
      exact gf_cut hc hM ha hz X x1 x2 q.1 q.2
    · have := hM.2 X x1 x2
      omega
  refine isMn_one hw ⟨?_, low⟩
  obtain ⟨⟨X, x1, x2, x3⟩, -⟩ := hM
  refine ⟨X, x1, x2, ?_⟩
  have h1 := low X x1 x2
  rw [gcp_upd ha] at h1 ⊢
  split
  · rename_i q
    rw [if_pos q] at h1
    omega
  · omega
theorem le_nn (hc : ∀ a : Int, 0 ≤ a → a < m → 0 ≤ c a) {F G a : Int} (hM : isMn m tl hd c s t F) (ha : 0 ≤ a ∧ a < m) (hG : isMn m tl hd (updC c a 0) s t G) : 0 ≤ F - G := by
  obtain ⟨⟨X, x1, x2, x3⟩, -⟩ := hM
  have h1 := hG.2 X x1 x2
  have := hc a ha.1 ha.2
  rw [gcp_upd ha] at h1
  split at h1 <;> omega
theorem le_gf (hc : ∀ a : Int, 0 ≤ a → a < m → 0 ≤ c a) {F G a z : Int} (hM : isMn m tl hd c s t F) (ha : 0 ≤ a ∧ a < m) (hG : isMn m tl hd (updC c a 0) s t G) (hz : z = c a ∨ ∃ X : Int → Bool, X (hd a) = true ∧ ¬ X (tl a) = true ∧ ind X s F - ind X t F + z = gcp m tl hd c X) : F - G ≤ z := by
  have h0 := gf_nn hc hM ha hz
  obtain ⟨⟨X, x1, x2, x3⟩, -⟩ := hG
  have h1 := hM.2 X x1 x2
  rw [gcp_upd ha] at x3
  split at x3
  · rename_i q
    have := gf_cut hc hM ha hz X x1 x2 q.1 q.2
    omega
  · omega
end CUTS
end
