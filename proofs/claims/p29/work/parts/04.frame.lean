/-! THE FRAME OF ALL WALKS: one world of numbered cells, one memory of whole numbers; every row of the kit that is used, said over it -/
abbrev Ix : Type := Nat × Nat
abbrev Mem : Type := Ix → Int → Int
def iI (z : Int) : Int32 := Int32.ofInt z
def iL (z : Int) : Int64 := Int64.ofInt z
abbrev jI (z : Int) : Value := .int (iI z)
theorem iI_add (x y : Int) : iI x + iI y = iI (x + y) := (Int32.ofInt_add x y).symm
theorem iI_sub (x y : Int) : iI x - iI y = iI (x - y) := (Int32.ofInt_sub x y).symm
theorem iI_mul (x y : Int) : iI x * iI y = iI (x * y) := (Int32.ofInt_mul x y).symm
theorem iI_neg (x : Int) : -iI x = iI (-x) := (Int32.ofInt_neg x).symm
theorem iL_add (x y : Int) : iL x + iL y = iL (x + y) := (Int64.ofInt_add x y).symm
theorem iL_mul (x y : Int) : iL x * iL y = iL (x * y) := (Int64.ofInt_mul x y).symm
def rg (z : Int) : Prop := -2147483648 ≤ z ∧ z < 2147483648
theorem iI_toInt {z : Int} (h : rg z) : (iI z).toInt = z := by
  obtain ⟨h1, h2⟩ := h
  exact Int32.toInt_ofInt_of_le (by simp; omega) (by simp; omega)
theorem iI_self (x : Int32) : iI x.toInt = x := Int32.ofInt_toInt x
theorem iI_rg (x : Int32) : rg x.toInt := ⟨by have := Int32.le_toInt x; simpa using this, by have := Int32.toInt_lt x; simpa using this⟩
theorem iI_lt {x y : Int} (hx : rg x) (hy : rg y) : iI x < iI y ↔ x < y := by rw [Int32.lt_iff_toInt_lt, iI_toInt hx, iI_toInt hy]
theorem iI_le {x y : Int} (hx : rg x) (hy : rg y) : iI x ≤ iI y ↔ x ≤ y := by rw [Int32.le_iff_toInt_le, iI_toInt hx, iI_toInt hy]
theorem iI_eq {x y : Int} (hx : rg x) (hy : rg y) : iI x = iI y ↔ x = y := by rw [← Int32.toInt_inj, iI_toInt hx, iI_toInt hy]
theorem iI_0 : (0 : Int32) = iI 0 := rfl
theorem iI_clamp {z : Int} (h0 : 0 ≤ z) (h : z < 2147483648) : (iI z).toNatClampNeg = z.toNat := by
  show (iI z).toInt.toNat = z.toNat
  rw [iI_toInt ⟨by omega, h⟩]
theorem iI_in {z : Int} {n : Nat} (h0 : 0 ≤ z) (h : z < n) (hn : n < 2147483648) : vp_in (iI z) n := by
  rw [vp_in_iff, iI_toInt ⟨by omega, by omega⟩]
  exact ⟨h0, h⟩
theorem iI_nat (n : Nat) : Int32.ofNat n = iI (n : Int) := rfl
/-- the words of the tables that any method may be handed -/
def TB : List Cond := lw_tbl.filter goodWord
def isNest : Cond → Bool
  | .fieldLinkNest .. => true
  | .methodLinkNest .. => true
  | .castable .. => true
  | .declares .. => true
  | _ => false
def NW : List Cond := lw_tbl.filter isNest
theorem TB_mem {w : Cond} (h : w ∈ lw_tbl) (hg : goodWord w = true) : w ∈ TB := List.mem_filter.mpr ⟨h, hg⟩
theorem NW_mem {w : Cond} (h : w ∈ lw_tbl) (hg : isNest w = true) : w ∈ NW := List.mem_filter.mpr ⟨h, hg⟩
theorem TB_good {w : Cond} (h : w ∈ TB) : goodWord w = true := (List.mem_filter.mp h).2
/-- the texts that exceptions carry -/
def strs : List (Nat × String) := lw_tbl.filterMap fun w => match w with
  | .stringRef "FlowNetwork" k t => some (k, t)
  | _ => none
/-- which exception is no other -/
def xnot : List (String × String) := []
def Sx (U : State) : Prop := (∀ q ∈ strs, ∃ sa : Nat, vk_R "FlowNetwork" q.1 q.2 sa U) ∧ ∀ q ∈ xnot, va_Nc q.1 q.2 U
theorem warmD {x : MethodName} {s U : State} (hW : s.WarmedH U.vm) (hZ : va_Nw (.declares x) s) : va_Nw (.declares x) U := va_tabs rfl (rfl : (s.setVm U.vm).vm = U.vm) (by rw [Cond.declares_setVm hW.alike]; exact hZ)
def Nx (U : State) : Prop := ∀ w ∈ NW, va_Nw w U
theorem Nx.warm {s U : State} (hW : s.WarmedH U.vm) (h : Nx s) : Nx U := by
  intro w hw
  have h1 := h w hw
  have h2 : isNest w = true := (List.mem_filter.mp hw).2
  cases w <;> first | exact va_Nw.warmF hW h1 | exact va_Nw.warmM hW h1 | exact va_Nw.warmC hW h1 | exact warmD hW h1 | cases h2
theorem Nx.same {u U : State} (hv : u.vm = U.vm) (h : Nx u) : Nx U := by
  intro w hw
  have h1 := h w hw
  have h2 : isNest w = true := (List.mem_filter.mp hw).2
  cases w <;> first | exact va_Nw.same rfl hv h1 | cases h2
theorem Sx.warm {s U : State} (hW : s.WarmedH U.vm) (h : Sx s) : Sx U := ⟨fun q hq => (h.1 q hq).elim fun sa h1 => ⟨sa, h1.warm hW⟩, fun q hq => (h.2 q hq).moved hW.alike⟩
theorem Sx.same {u U : State} (hv : u.vm = U.vm) (h : Sx u) : Sx U := ⟨fun q hq => (h.1 q hq).elim fun sa h1 => ⟨sa, h1.same hv.symm⟩, fun q hq => (h.2 q hq).moved (by rw [hv]; exact Vm.Alike.refl U.vm)⟩
abbrev tysL (cs : Nat → ClassId) : List (ClassId × FieldType) := [(cs 0, .int), (cs 1, .array .int)]
/-! the cells -/
abbrev arI (cs : Nat → ClassId) (σ : Mem) (i : Ix) (n : Nat) : va_E := .inl (cs 0, n, .inl (fun j => iI (σ i (j : Int))))
abbrev arQ (cs : Nat → ClassId) (n : Nat) (f : Nat → Nat) : va_E := .inl (cs 1, n, .inr (.inr (.inr (.inr (fun j => if j < n then some (f j) else none)))))
def encN (cs : Nat → ClassId) (ad : Ix → Nat) (σ : Mem) (k : Nat) : va_E := match k with
  | 0 => .inr (4, [jI (σ (0, 0) 0), jI (σ (0, 1) 0), .ref (ad (0, 2)), .ref (ad (0, 3)), .ref (ad (0, 4)), .ref (ad (0, 5))])
  | 2 => arI cs σ (0, 2) 80
  | 3 => arI cs σ (0, 3) 80
  | 4 => arI cs σ (0, 4) 24
  | _ => arQ cs 24 (fun v => ad (1, v))
def encL (cs : Nat → ClassId) (ad : Ix → Nat) (σ : Mem) (k : Nat) : va_E := match k with
  | 0 => .inr (2, [jI (σ (3, 0) 0), .ref (ad (3, 3)), .ref (ad (3, 1)), .ref (ad (3, 2))])
  | 1 => arI cs σ (3, 1) 8
  | 2 => arI cs σ (3, 2) 8
  | 3 => arQ cs 8 (fun v => ad (2, v))
  | 4 => .inr (0, [jI (σ (3, 4) 0), .ref (ad (3, 5)), .ref (ad (3, 6))])
  | 5 => arI cs σ (3, 5) 300
  | 6 => arI cs σ (3, 6) 24
  | _ => .inr (6, [.ref (ad (0, 0)), .ref (ad (6, 0)), .ref (ad (7, 0)), .ref (ad (3, 0)), .ref (ad (3, 4))])
def encM (cs : Nat → ClassId) (σ : Mem) (k : Nat) : va_E := match k with
  | 0 => arI cs σ (4, 0) 7
  | 1 => arI cs σ (4, 1) 7
  | 2 => arI cs σ (4, 2) 7
  | _ => .inr (6, [])
def encO : va_E := .inr (6, [])
def encB (cs : Nat → ClassId) (ad : Ix → Nat) (σ : Mem) (g k : Nat) : va_E := match k with
  | 0 => .inr (3, [.ref (ad (0, 0)), .ref (ad (g, 1)), .ref (ad (g, 4)), jI (σ (g, 8) 0), jI (σ (g, 9) 0), jI (σ (g, 10) 0)])
  | 1 => .inr (1, [.ref (ad (0, 0)), .ref (ad (g, 2)), .ref (ad (g, 3))])
  | 2 => arI cs σ (g, 2) 80
  | 3 => arI cs σ (g, 3) 80
  | 4 => .inr (5, [.ref (ad (0, 0)), .ref (ad (g, 1)), .ref (ad (g, 5)), .ref (ad (g, 6)), .ref (ad (g, 7)), jI (σ (g, 11) 0), jI (σ (g, 12) 0)])
  | 5 => arI cs σ (g, 5) 24
  | 6 => arI cs σ (g, 6) 24
  | 7 => arI cs σ (g, 7) 24
  | _ => .inr (6, [])
def enc (cs : Nat → ClassId) (ad : Ix → Nat) (σ : Mem) (i : Ix) : va_E := match i with
  | (0, k) => encN cs ad σ k
  | (1, v) => arI cs σ (1, v) 80
  | (2, v) => arI cs σ (2, v) 80
  | (3, k) => encL cs ad σ k
  | (4, k) => encM cs σ k
  | (5, k) => encO
  | (b + 6, k) => encB cs ad σ (b + 6) k
def idsF : List Ix := [(0, 0), (0, 2), (0, 3), (0, 4), (0, 5)] ++ (List.range 24).map (fun v => (1, v)) ++ (List.range 8).map (fun v => (2, v)) ++ [(3, 0), (3, 1), (3, 2), (3, 3), (3, 4), (3, 5), (3, 6), (3, 7)] ++ [(6, 0), (6, 1), (6, 2), (6, 3), (6, 4), (6, 5), (6, 6), (6, 7)] ++ [(7, 0), (7, 1), (7, 2), (7, 3), (7, 4), (7, 5), (7, 6), (7, 7)]
def idsM : List Ix := [(4, 0), (4, 1), (4, 2)]
def idsA : List Ix := idsF ++ idsM
theorem idsF_nd : idsF.Nodup := by decide +kernel
theorem idsM_nd : idsM.Nodup := by decide +kernel
theorem idsA_nd : idsA.Nodup := by decide +kernel
def mset (σ : Mem) (i : Ix) (z x : Int) : Mem := fun q j => if q = i ∧ j = z then x else σ q j
theorem mset_same {σ : Mem} {i : Ix} {z x : Int} : mset σ i z x i z = x := if_pos ⟨rfl, rfl⟩
theorem mset_id {σ : Mem} {i q : Ix} {z x : Int} (h : q ≠ i) : mset σ i z x q = σ q := funext fun _ => if_neg fun e => h e.1
theorem mset_ix {σ : Mem} {i : Ix} {z x j : Int} (h : j ≠ z) : mset σ i z x i j = σ i j := if_neg fun e => h e.2
theorem mset_at {σ : Mem} {i : Ix} {z x j : Int} : mset σ i z x i j = if j = z then x else σ i j := by
  by_cases h : j = z
  · rw [if_pos h, h, mset_same]
  · rw [if_neg h, mset_ix h]
/-- the object that holds a number -/
def owner (q : Ix) : Ix := match q with
  | (0, 0) => (0, 0)
  | (0, 1) => (0, 0)
  | (b + 6, 8) => (b + 6, 0)
  | (b + 6, 9) => (b + 6, 0)
  | (b + 6, 10) => (b + 6, 0)
  | (b + 6, 11) => (b + 6, 4)
  | (b + 6, 12) => (b + 6, 4)
  | q => q
theorem enc_reads {cs : Nat → ClassId} {ad : Ix → Nat} {σ τ : Mem} : ∀ {i : Ix}, (∀ q, owner q = i → σ q = τ q) → enc cs ad σ i = enc cs ad τ i
  | (0, k), h => by
    show encN cs ad σ k = encN cs ad τ k
    unfold encN
    split
    · rw [h (0, 0) rfl, h (0, 1) rfl]
    · rw [arI, h (0, 2) rfl]
    · rw [arI, h (0, 3) rfl]
    · rw [arI, h (0, 4) rfl]
    · rfl
  | (1, v), h => by show arI cs σ (1, v) 80 = arI cs τ (1, v) 80; rw [arI, h (1, v) rfl]
  | (2, v), h => by show arI cs σ (2, v) 80 = arI cs τ (2, v) 80; rw [arI, h (2, v) rfl]
  | (3, k), h => by
    show encL cs ad σ k = encL cs ad τ k
    unfold encL
    split
    · rw [h (3, 0) rfl]
    · rw [arI, h (3, 1) rfl]
    · rw [arI, h (3, 2) rfl]
    · rfl
    · rw [h (3, 4) rfl]
    · rw [arI, h (3, 5) rfl]
    · rw [arI, h (3, 6) rfl]
    · rfl
  | (4, k), h => by
    show encM cs σ k = encM cs τ k
    unfold encM
    split
    · rw [arI, h (4, 0) rfl]
    · rw [arI, h (4, 1) rfl]
    · rw [arI, h (4, 2) rfl]
    · rfl
  | (5, k), h => rfl
  | (b + 6, k), h => by
    show encB cs ad σ (b + 6) k = encB cs ad τ (b + 6) k
    unfold encB
    split
    · rw [h (b + 6, 8) rfl, h (b + 6, 9) rfl, h (b + 6, 10) rfl]
    · rfl
    · rw [arI, h (b + 6, 2) rfl]
    · rw [arI, h (b + 6, 3) rfl]
    · rw [h (b + 6, 11) rfl, h (b + 6, 12) rfl]
    · rw [arI, h (b + 6, 5) rfl]
    · rw [arI, h (b + 6, 6) rfl]
    · rw [arI, h (b + 6, 7) rfl]
    · rfl

/-! the world in a heap, and one walk over it -/
def Pic (D : va_G) (cs : Nat → ClassId) (ids : List Ix) (ad : Ix → Nat) (σ : Mem) (H : Heap) : Prop := ∀ i ∈ ids, va_at D vwCl (ad i, enc cs ad σ i) H
def Apart (ids : List Ix) (ad : Ix → Nat) : Prop := ∀ i ∈ ids, ∀ j ∈ ids, ad i = ad j → i = j
def Rg (ids : List Ix) (ad : Ix → Nat) : Nat → Prop := fun q => ∃ i ∈ ids, ad i = q
def Wo (D : va_G) (cs : Nat → ClassId) (ids : List Ix) (ad : Ix → Nat) (σ : Mem) (U : State) : Prop := Pic D cs ids ad σ U.heap ∧ va_K D vwCl (tysL cs) U ∧ Nx U ∧ Sx U
theorem Wo.same {D : va_G} {cs : Nat → ClassId} {ids : List Ix} {ad : Ix → Nat} {σ : Mem} {u U : State} (hh : u.heap = U.heap) (hv : u.vm = U.vm) (h : Wo D cs ids ad σ u) : Wo D cs ids ad σ U := ⟨by rw [← hh]; exact h.1, va_K.moved (by rw [hv]; exact Vm.Alike.refl U.vm) h.2.1, h.2.2.1.same hv, h.2.2.2.same hv⟩
def Cx (p : Program) (s : State) (m : MethodId) (args : Array Value) (meth : Method) (c : Code) (cc : ByteArray) (nL : Nat) (own : String) : Prop :=
  p.tables.exec = Jvm.exec ∧ c.code = cc ∧ c.maxLocals = nL ∧ s.vm.findClass own = some m.cls ∧ (∀ w ∈ TB, w.before args s = true) ∧ meth.locks = false
def Kx (D : va_G) (cs : Nat → ClassId) (ids : List Ix) (ad : Ix → Nat) (A : Nat → Prop) (s : State) : Prop :=
  va_K D vwCl (tysL cs) s ∧ Apart ids ad ∧ (∀ i ∈ ids, A (ad i)) ∧ ids.Nodup ∧ Nx s ∧ Sx s
/-- the locals: what the list says of a place, the place holds -/
def lo_has (ls : Array Slot) (nL : Nat) (lo : List (Option Value)) : Prop := ls.size = nL ∧ lv_wf ls ∧ ∀ (i : Nat) (v : Value), lo[i]? = some (some v) → ls[i]? = some (.val v)
def lo_l (lo : List (Option Value)) : List (Nat × Value) := lo.zipIdx.filterMap fun q => q.1.map fun v => (q.2, v)
theorem lo_l_mem {lo : List (Option Value)} {i : Nat} {v : Value} : (i, v) ∈ lo_l lo ↔ lo[i]? = some (some v) := by
  unfold lo_l
  rw [List.mem_filterMap]
  constructor
  · rintro ⟨⟨o, k⟩, hm, he⟩
    cases o with
    | none => cases he
    | some w =>
      simp only [Option.map_some, Option.some.injEq, Prod.mk.injEq] at he
      obtain ⟨rfl, rfl⟩ := he
      exact List.mem_zipIdx_iff_getElem?.mp hm
  · intro h
    exact ⟨(some v, i), List.mem_zipIdx_iff_getElem?.mpr h, rfl⟩
theorem lo_lv {ls : Array Slot} {nL : Nat} {lo : List (Option Value)} (h : lo_has ls nL lo) : lv_has ls nL (lo_l lo) := ⟨h.1, h.2.1, fun q hq => h.2.2 q.1 q.2 (lo_l_mem.mp hq)⟩
def wideAt (lo : List (Option Value)) (i : Nat) : Bool := match i with
  | 0 => false
  | k + 1 => match lo[k]? with
    | some (some v) => v.category == 2
    | _ => false
theorem lo_put1 {ls : Array Slot} {nL i : Nat} {v : Value} {lo : List (Option Value)} (hw : wideAt lo i = false) (h : lv_has ls nL ((i, v) :: (lo_l lo).filter (fun q => !(q.1 == i) && !(q.1 + 1 == i && q.2.category == 2)))) : lo_has ls nL (lo.set i (some v)) := by
  refine ⟨h.1, h.2.1, fun j w hj => ?_⟩
  by_cases hji : j = i
  · subst hji
    have hl : j < lo.length := by
      have := (List.getElem?_eq_some_iff.mp hj).1
      simpa using this
    rw [List.getElem?_set_self hl] at hj
    cases hj
    exact h.2.2 (j, v) List.mem_cons_self
  · rw [List.getElem?_set_ne (Ne.symm hji)] at hj
    refine h.2.2 (j, w) (List.mem_cons_of_mem _ (List.mem_filter.mpr ⟨lo_l_mem.mpr hj, ?_⟩))
    have h1 : (j == i) = false := by simpa using hji
    simp only [h1, Bool.not_false, Bool.true_and, Bool.not_eq_true', Bool.and_eq_false_iff]
    by_cases h2 : j + 1 = i
    · right
      subst h2
      have hw : (match lo[j]? with
        | some (some v) => v.category == 2
        | _ => false) = false := hw
      rw [hj] at hw
      exact hw
    · left
      simpa using h2
theorem lo_put2 {ls : Array Slot} {nL i : Nat} {v : Value} {lo : List (Option Value)} (hw : wideAt lo i = false) (h : lv_has ls nL ((i, v) :: (lo_l lo).filter (fun q => !(q.1 == i) && (!(q.1 == i + 1) && !(q.1 + 1 == i && q.2.category == 2))))) : lo_has ls nL ((lo.set i (some v)).set (i + 1) none) := by
  refine ⟨h.1, h.2.1, fun j w hj => ?_⟩
  by_cases hj1 : j = i + 1
  · subst hj1
    have hl : i + 1 < lo.length := by
      have := (List.getElem?_eq_some_iff.mp hj).1
      simpa using this
    rw [List.getElem?_set_self (by simpa using hl)] at hj
    cases hj
  rw [List.getElem?_set_ne (Ne.symm hj1)] at hj
  by_cases hji : j = i
  · subst hji
    have hl : j < lo.length := by
      have := (List.getElem?_eq_some_iff.mp hj).1
      simpa using this
    rw [List.getElem?_set_self hl] at hj
    cases hj
    exact h.2.2 (j, v) List.mem_cons_self
  · rw [List.getElem?_set_ne (Ne.symm hji)] at hj
    refine h.2.2 (j, w) (List.mem_cons_of_mem _ (List.mem_filter.mpr ⟨lo_l_mem.mpr hj, ?_⟩))
    have h1 : (j == i) = false := by simpa using hji
    have h3 : (j == i + 1) = false := by simpa using hj1
    simp only [h1, h3, Bool.not_false, Bool.true_and, Bool.not_eq_true', Bool.and_eq_false_iff]
    by_cases h2 : j + 1 = i
    · right
      subst h2
      have hw : (match lo[j]? with
        | some (some v) => v.category == 2
        | _ => false) = false := hw
      rw [hj] at hw
      exact hw
    · left
      simpa using h2
def loLe : List (Option Value) → List (Option Value) → Prop
  | [], _ => True
  | none :: a, [] => loLe a []
  | none :: a, _ :: b => loLe a b
  | some _ :: _, [] => False
  | some v :: a, y :: b => y = some v ∧ loLe a b
theorem loLe.use : ∀ {a b : List (Option Value)}, loLe a b → ∀ (i : Nat) (v : Value), a[i]? = some (some v) → b[i]? = some (some v)
  | [], _, _, i, v, h => by simp at h
  | none :: a, [], hl, i, v, h => by
    cases i with
    | zero => cases h
    | succ i =>
      have := loLe.use (a := a) (b := []) hl i v h
      simp at this
  | none :: a, y :: b, hl, i, v, h => by
    cases i with
    | zero => cases h
    | succ i => exact loLe.use (a := a) (b := b) hl i v h
  | some w :: a, [], hl, i, v, h => hl.elim
  | some w :: a, y :: b, hl, i, v, h => by
    cases i with
    | zero =>
      obtain ⟨h1, -⟩ := hl
      rw [h1]
      exact h
    | succ i => exact loLe.use (a := a) (b := b) hl.2 i v h
theorem lo_has.weak {ls : Array Slot} {nL : Nat} {lo lo' : List (Option Value)} (h : lo_has ls nL lo) (hl : loLe lo' lo) : lo_has ls nL lo' := ⟨h.1, h.2.1, fun i v hi => h.2.2 i v (hl.use i v hi)⟩
def entryLo : List Value → Nat → List (Option Value)
  | _, 0 => []
  | [], n + 1 => none :: entryLo [] n
  | v :: vs, n + 1 => if v.category = 2 then (match n with
    | 0 => [some v]
    | k + 1 => some v :: none :: entryLo vs k) else some v :: entryLo vs n
theorem entryLo_nil : ∀ (n i : Nat) (v : Value), (entryLo [] n)[i]? = some (some v) → False
  | 0, i, v, h => by simp [entryLo] at h
  | n + 1, i, v, h => by
    cases i with
    | zero => cases h
    | succ i => exact entryLo_nil n i v h
theorem entryLo_mem : ∀ (vs : List Value) (n b i : Nat) (v : Value), (entryLo vs n)[i]? = some (some v) → (b + i, v) ∈ lv_args b vs
  | [], n, b, i, v, h => (entryLo_nil n i v h).elim
  | w :: vs, 0, b, i, v, h => by simp [entryLo] at h
  | w :: vs, n + 1, b, i, v, h => by
    unfold entryLo at h
    unfold lv_args
    by_cases hc : w.category = 2
    · rw [if_pos hc] at h ⊢
      cases n with
      | zero =>
        cases i with
        | zero => cases h; exact List.mem_cons_self
        | succ i => simp at h
      | succ k =>
        cases i with
        | zero => cases h; exact List.mem_cons_self
        | succ i =>
          cases i with
          | zero => cases h
          | succ i =>
            have := entryLo_mem vs k (b + 2) i v h
            rw [show b + (i + 1 + 1) = b + 2 + i by omega]
            exact List.mem_cons_of_mem _ this
    · rw [if_neg hc] at h ⊢
      cases i with
      | zero => cases h; exact List.mem_cons_self
      | succ i =>
        have := entryLo_mem vs n (b + 1) i v h
        rw [show b + (i + 1) = b + 1 + i by omega]
        exact List.mem_cons_of_mem _ this
theorem lo_entry (vs : List Value) {n : Nat} (h : (lg_sl vs).length ≤ n) : lo_has ((lg_sl vs ++ List.replicate (n - (lg_sl vs).length) Slot.unset).toArray) n (entryLo vs n) := by
  have h1 := lv_entry vs h
  refine ⟨h1.1, h1.2.1, fun i v hi => ?_⟩
  have := entryLo_mem vs n 0 i v hi
  rw [Nat.zero_add] at this
  exact h1.2.2 (i, v) this
def Wx (p : Program) (l : Launch) (e : Env) (R : Room) (s : State) (m : MethodId) (args : Array Value) (below : List Frame) (meth : Method) (c : Code) (D : va_G) (cs : Nat → ClassId) (ids : List Ix) (ad : Ix → Nat) (A : Nat → Prop) (H0 : Heap) (nL : Nat) (Q : State → Prop) (mc ms : Nat) (σ : Mem) (pc : Nat) (lo : List (Option Value)) (st : List Value) : Prop :=
  ∀ (H : Heap) (locs : List Loc) (ls : Array Slot), Pic D cs ids ad σ H → va_S A H0 H locs → lo_has ls nL lo → W p l e R s m args below meth c H locs mc ms Q (F0 m pc ls st)
