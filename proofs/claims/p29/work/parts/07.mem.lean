section ZM
variable {p : Program} {l : Launch} {e : Env} {R : Room} {s : State} {m : MethodId} {args : Array Value} {below : List Frame} {meth : Method} {c : Code} {D : va_G} {cs : Nat → ClassId} {ids : List Ix} {ad : Ix → Nat} {A : Nat → Prop} {H0 : Heap} {nL : Nat} {Q : State → Prop} {mc ms : Nat} {σ : Mem} {pc : Nat} {lo : List (Option Value)} {st : List Value} {cc : ByteArray} {own : String}
theorem pic_one {H : Heap} {o : Ix} (h : Pic D cs ids ad σ H) (ho : o ∈ ids) {x : va_E} (he : enc cs ad σ o = x) : va_P D vwCl [(ad o, x)] H := by
  intro k q hq
  cases k with
  | zero => cases hq; rw [← he]; exact h o ho
  | succ k => simp at hq
abbrev wlist (cs : Nat → ClassId) (ids : List Ix) (ad : Ix → Nat) (σ : Mem) : va_W := ids.map (fun i => (ad i, enc cs ad σ i))
theorem pic_P {H : Heap} (h : Pic D cs ids ad σ H) : va_P D vwCl (wlist cs ids ad σ) H := by
  intro k q hq
  rw [List.getElem?_map] at hq
  cases hi : ids[k]? with
  | none => rw [hi] at hq; cases hq
  | some i => rw [hi] at hq; cases hq; exact h i (List.mem_of_getElem? hi)
theorem nd_at {l : List Ix} (h : l.Nodup) : ∀ {i j : Nat} {x : Ix}, l[i]? = some x → l[j]? = some x → i = j := by
  intro i j x hi hj
  obtain ⟨h1, h2⟩ := List.getElem?_eq_some_iff.mp hi
  obtain ⟨h3, h4⟩ := List.getElem?_eq_some_iff.mp hj
  exact (List.getElem_inj h).mp (h2.trans h4.symm)
theorem pic_D (hnd : ids.Nodup) (hap : Apart ids ad) (hA : ∀ i ∈ ids, A (ad i)) : va_D A (wlist cs ids ad σ) := by
  have key : ∀ (k : Nat) (q : Nat × va_E), (wlist cs ids ad σ)[k]? = some q → ∃ i, ids[k]? = some i ∧ q.1 = ad i := by
    intro k q hq
    rw [List.getElem?_map] at hq
    cases hi : ids[k]? with
    | none => rw [hi] at hq; cases hq
    | some i => rw [hi] at hq; cases hq; exact ⟨i, rfl, rfl⟩
  refine ⟨fun i j x y hi hj hxy => ?_, fun k q hk => ?_⟩
  · obtain ⟨a, h1, h2⟩ := key i x hi
    obtain ⟨b, h3, h4⟩ := key j y hj
    have hab : a = b := hap a (List.mem_of_getElem? h1) b (List.mem_of_getElem? h3) (by rw [← h2, ← h4]; exact hxy)
    subst hab
    exact nd_at hnd h1 h3
  · obtain ⟨a, h1, h2⟩ := key k q hk
    rw [h2]
    exact hA a (List.mem_of_getElem? h1)
theorem pic_set {τ : Mem} {H : Heap} {o : Ix} {q0 : Nat} {x : va_E} (hnd : ids.Nodup) (hq0 : ids[q0]? = some o) (hP : va_P D vwCl ((wlist cs ids ad σ).set q0 (ad o, x)) H) (he : enc cs ad τ o = x) (hr : ∀ q, owner q ≠ o → σ q = τ q) : Pic D cs ids ad τ H := by
  intro i hi
  obtain ⟨k, hk⟩ := List.getElem?_of_mem hi
  have hl : k < (wlist cs ids ad σ).length := by
    rw [List.length_map]
    exact (List.getElem?_eq_some_iff.mp hk).1
  by_cases hio : i = o
  · subst hio
    have : k = q0 := nd_at hnd hk hq0
    subst this
    have h1 := hP k (ad i, x) (by rw [List.getElem?_set_self hl])
    rw [he]
    exact h1
  · have hkq : k ≠ q0 := fun e => hio (by rw [e, hq0] at hk; exact (Option.some.inj hk).symm)
    have h1 := hP k (ad i, enc cs ad σ i) (by rw [List.getElem?_set_ne (Ne.symm hkq), List.getElem?_map, hk]; rfl)
    rw [← enc_reads (σ := σ) (τ := τ) (i := i) (fun q hq => hr q (by rw [hq]; exact hio))]
    exact h1
theorem ids_place {o : Ix} (ho : o ∈ ids) : ∃ q0 : Nat, ids[q0]? = some o ∧ (wlist cs ids ad σ)[q0]? = some (ad o, enc cs ad σ o) := by
  obtain ⟨k, hk⟩ := List.getElem?_of_mem ho
  exact ⟨k, hk, by rw [List.getElem?_map, hk]; rfl⟩
theorem mset_owner {i o : Ix} {z x : Int} (h : owner i = o) : ∀ q, owner q ≠ o → σ q = mset σ i z x q := fun q hq => (mset_id (fun e => hq (by rw [e]; exact h))).symm
-- fields
theorem zr_get (X : Cx p s m args meth c cc nL own) (K : Kx D cs ids ad A s) {o : Ix} {ref C nm dsc : String} {T : u_T} {N ci k index : Nat} {fs : List Value} {v : Value} (ho : o ∈ ids) (he : enc cs ad σ o = .inr (ci, fs)) (hc : vwCl[ci]? = some (C, T, N)) (hin : ∀ w ∈ u_ws C T N, w ∈ TB) (hk : k < N) (hT : T k = (ref, nm, dsc, (T k).2.2.2)) (hw : Cond.fieldLink own index ref nm dsc ∈ TB) (hv : fs[k]? = some v) (d : decode cc pc = .ok (.getfield index, 3))
    (kk : Wx p l e R s m args below meth c D cs ids ad A H0 nL Q mc ms σ (pc + 3) lo (v :: st)) : Wx p l e R s m args below meth c D cs ids ad A H0 nL Q mc ms σ pc lo (.ref (ad o) :: st) := fun H locs ls hP hS hl => by
  refine va_get (ref := ref) X.1 X.2.1 X.2.2.2.2.1 hin X.2.2.2.1 K.1 (pic_one hP ho he) 0 rfl hc k hk ?_ ?_ hv d (kk H locs ls hP hS hl)
  · rw [hT]; exact X.2.2.2.2.1 _ hw
  · rw [hT]; exact fun _ h => h
theorem zr_getN (X : Cx p s m args meth c cc nL own) (K : Kx D cs ids ad A s) {o : Ix} {ref C nm dsc host : String} {T : u_T} {N ci k index : Nat} {fs : List Value} {v : Value} (ho : o ∈ ids) (he : enc cs ad σ o = .inr (ci, fs)) (hc : vwCl[ci]? = some (C, T, N)) (hin : ∀ w ∈ u_ws C T N, w ∈ TB) (hk : k < N) (hT : T k = (ref, nm, dsc, (T k).2.2.2)) (hw : Cond.fieldLinkNest own index ref nm dsc host ∈ NW) (hv : fs[k]? = some v) (d : decode cc pc = .ok (.getfield index, 3))
    (kk : Wx p l e R s m args below meth c D cs ids ad A H0 nL Q mc ms σ (pc + 3) lo (v :: st)) : Wx p l e R s m args below meth c D cs ids ad A H0 nL Q mc ms σ pc lo (.ref (ad o) :: st) := fun H locs ls hP hS hl => by
  refine va_getN (ref := ref) (host := host) X.1 X.2.1 X.2.2.2.2.1 hin X.2.2.2.1 K.1 (pic_one hP ho he) 0 rfl hc k hk ?_ ?_ hv d (kk H locs ls hP hS hl)
  · rw [hT]; exact va_Nw.use rfl (K.2.2.2.2.1 _ hw)
  · rw [hT]; exact fun _ h => h
theorem zr_put (X : Cx p s m args meth c cc nL own) (K : Kx D cs ids ad A s) {o q : Ix} {ref C nm dsc : String} {T : u_T} {ty0 : Nat → FieldType} {ty : FieldType} {N ci k index : Nat} {F : Mem → List Value} {x : Int} (ho : o ∈ ids) (he : ∀ τ, enc cs ad τ o = .inr (ci, F τ)) (hF : F (mset σ q 0 x) = (F σ).set k (jI x)) (hq : owner q = o) (hc : vwCl[ci]? = some (C, T, N)) (hin : ∀ w ∈ u_ws C T N, w ∈ TB) (hty : ∀ k, k < N → parseFieldDescriptor (T k).2.2.1 = some (ty0 k)) (hnm : ∀ a, a < N → ∀ b, b < N → a ≠ b → (T a).2.1 ≠ (T b).2.1) (hk : k < N) (hT : T k = (ref, nm, dsc, false)) (hw : Cond.fieldLink own index ref nm dsc ∈ TB) (hd : ty0 k = ty) (hn : narrow ty (jI x) = jI x) (hfit : fits ty (jI x) = true) (hl0 : k < (F σ).length) (d : decode cc pc = .ok (.putfield index, 3))
    (kk : Wx p l e R s m args below meth c D cs ids ad A H0 nL Q mc ms (mset σ q 0 x) (pc + 3) lo st) : Wx p l e R s m args below meth c D cs ids ad A H0 nL Q mc ms σ pc lo (jI x :: .ref (ad o) :: st) := fun H locs ls hP hS hl => by
  obtain ⟨q0, h1, h2⟩ := ids_place (cs := cs) (ad := ad) (σ := σ) ho
  rw [he] at h2
  refine va_put (ref := ref) X.1 X.2.1 X.2.2.2.2.1 hin ty0 hty hnm X.2.2.2.1 K.1 (pic_P hP) (pic_D K.2.2.2.1 K.2.1 K.2.2.1) hS q0 h2 hc k hk ?_ ?_ ?_ ((hty k hk).trans (congrArg some hd)) hn hfit hl0 d (fun H1 locs1 hP1 _ hS1 => kk H1 locs1 ls (pic_set K.2.2.2.1 h1 hP1 (by rw [he, hF]) (mset_owner hq)) hS1 hl)
  · rw [hT]; exact X.2.2.2.2.1 _ hw
  · rw [hT]; exact fun _ h => h
  · rw [hT]
theorem zr_putN (X : Cx p s m args meth c cc nL own) (K : Kx D cs ids ad A s) {o q : Ix} {ref C nm dsc host : String} {T : u_T} {ty0 : Nat → FieldType} {ty : FieldType} {N ci k index : Nat} {F : Mem → List Value} {x : Int} (ho : o ∈ ids) (he : ∀ τ, enc cs ad τ o = .inr (ci, F τ)) (hF : F (mset σ q 0 x) = (F σ).set k (jI x)) (hq : owner q = o) (hc : vwCl[ci]? = some (C, T, N)) (hin : ∀ w ∈ u_ws C T N, w ∈ TB) (hty : ∀ k, k < N → parseFieldDescriptor (T k).2.2.1 = some (ty0 k)) (hnm : ∀ a, a < N → ∀ b, b < N → a ≠ b → (T a).2.1 ≠ (T b).2.1) (hk : k < N) (hT : T k = (ref, nm, dsc, false)) (hw : Cond.fieldLinkNest own index ref nm dsc host ∈ NW) (hd : ty0 k = ty) (hn : narrow ty (jI x) = jI x) (hfit : fits ty (jI x) = true) (hl0 : k < (F σ).length) (d : decode cc pc = .ok (.putfield index, 3))
    (kk : Wx p l e R s m args below meth c D cs ids ad A H0 nL Q mc ms (mset σ q 0 x) (pc + 3) lo st) : Wx p l e R s m args below meth c D cs ids ad A H0 nL Q mc ms σ pc lo (jI x :: .ref (ad o) :: st) := fun H locs ls hP hS hl => by
  obtain ⟨q0, h1, h2⟩ := ids_place (cs := cs) (ad := ad) (σ := σ) ho
  rw [he] at h2
  refine va_putN (ref := ref) (host := host) X.1 X.2.1 X.2.2.2.2.1 hin ty0 hty hnm X.2.2.2.1 K.1 (pic_P hP) (pic_D K.2.2.2.1 K.2.1 K.2.2.1) hS q0 h2 hc k hk ?_ ?_ ?_ ((hty k hk).trans (congrArg some hd)) hn hfit hl0 d (fun H1 locs1 hP1 _ hS1 => kk H1 locs1 ls (pic_set K.2.2.2.1 h1 hP1 (by rw [he, hF]) (mset_owner hq)) hS1 hl)
  · rw [hT]; exact va_Nw.use rfl (K.2.2.2.2.1 _ hw)
  · rw [hT]; exact fun _ h => h
  · rw [hT]
-- arrays
theorem zr_iald (X : Cx p s m args meth c cc nL own) (K : Kx D cs ids ad A s) {i : Ix} {n : Nat} {z : Int} (hi : i ∈ ids) (he : enc cs ad σ i = arI cs σ i n) (hn : n < 2147483648) (h0 : 0 ≤ z ∧ z < n) (d : decode cc pc = .ok (.iaload, 1)) (kk : Wx p l e R s m args below meth c D cs ids ad A H0 nL Q mc ms σ (pc + 1) lo (jI (σ i z) :: st)) : Wx p l e R s m args below meth c D cs ids ad A H0 nL Q mc ms σ pc lo (jI z :: .ref (ad i) :: st) := fun H locs ls hP hS hl => by
  refine va_iald X.1 X.2.1 K.1 (pic_one hP hi he) 0 0 rfl rfl (iI_in h0.1 h0.2 hn) d ?_
  rw [iI_clamp h0.1 (by omega), Int.toNat_of_nonneg h0.1]
  exact kk H locs ls hP hS hl
theorem arI_put {i : Ix} {n : Nat} {z x : Int} (h0 : 0 ≤ z) (hz : z < 2147483648) : arI cs (mset σ i z x) i n = .inl (cs 0, n, .inl (upd (fun j => iI (σ i (j : Int))) (iI z).toNatClampNeg (iI x))) := by
  rw [iI_clamp h0 hz]
  show (Sum.inl (cs 0, n, Sum.inl _) : va_E) = _
  congr 4
  funext j
  show iI (mset σ i z x i (j : Int)) = upd (fun j => iI (σ i (j : Int))) z.toNat (iI x) j
  rw [mset_at]
  by_cases h : j = z.toNat
  · subst h
    rw [if_pos (Int.toNat_of_nonneg h0)]
    simp [upd]
  · rw [if_neg (by omega)]
    simp [upd, h]
theorem zr_iast (X : Cx p s m args meth c cc nL own) (K : Kx D cs ids ad A s) {i : Ix} {n : Nat} {z x : Int} (hi : i ∈ ids) (he : ∀ τ, enc cs ad τ i = arI cs τ i n) (hq : owner i = i) (hn : n < 2147483648) (h0 : 0 ≤ z ∧ z < n) (d : decode cc pc = .ok (.iastore, 1)) (kk : Wx p l e R s m args below meth c D cs ids ad A H0 nL Q mc ms (mset σ i z x) (pc + 1) lo st) : Wx p l e R s m args below meth c D cs ids ad A H0 nL Q mc ms σ pc lo (jI x :: jI z :: .ref (ad i) :: st) := fun H locs ls hP hS hl => by
  obtain ⟨q0, h1, h2⟩ := ids_place (cs := cs) (ad := ad) (σ := σ) hi
  rw [he] at h2
  exact va_iast X.1 X.2.1 K.1 (pic_P hP) (pic_D K.2.2.2.1 K.2.1 K.2.2.1) hS q0 0 h2 rfl (iI_in h0.1 h0.2 hn) d (fun H1 locs1 hP1 _ hS1 => kk H1 locs1 ls (pic_set K.2.2.2.1 h1 hP1 (by rw [he, arI_put h0.1 (by omega)]) (mset_owner hq)) hS1 hl)
theorem zr_aald (X : Cx p s m args meth c cc nL own) (K : Kx D cs ids ad A s) {i : Ix} {n : Nat} {f : Nat → Nat} {z : Int} (hi : i ∈ ids) (he : enc cs ad σ i = arQ cs n f) (hn : n < 2147483648) (h0 : 0 ≤ z ∧ z < n) (d : decode cc pc = .ok (.aaload, 1)) (kk : Wx p l e R s m args below meth c D cs ids ad A H0 nL Q mc ms σ (pc + 1) lo (.ref (f z.toNat) :: st)) : Wx p l e R s m args below meth c D cs ids ad A H0 nL Q mc ms σ pc lo (jI z :: .ref (ad i) :: st) := fun H locs ls hP hS hl => by
  have hin := iI_in (z := z) h0.1 h0.2 hn
  have hlt : (iI z).toNatClampNeg < n := Nat.not_le.mp fun q => hin (Or.inr q)
  have h1 := hP i hi
  rw [he] at h1
  refine W.aald (v := .ref (f z.toNat)) (ty := .array .int) X.1 X.2.1 h1 ((K.1.2 1 _ rfl).1 n (fun j => va_rf (if j < n then some (f j) else none))) rfl (fun q => by cases q) (by show ¬ (iI z < 0 ∨ (arrV _ _ _).slots.size ≤ _); rw [arrV_size]; exact hin) ?_ rfl rfl d (kk H locs ls hP hS hl)
  show (arrV _ _ _).slots[_]? = _
  rw [arrV_read _ _ hlt]
  show some (va_rf (if (iI z).toNatClampNeg < n then some (f (iI z).toNatClampNeg) else none)) = _
  rw [if_pos hlt, iI_clamp h0.1 (by omega)]
  rfl
theorem zr_alen (X : Cx p s m args meth c cc nL own) (K : Kx D cs ids ad A s) {i : Ix} {n : Nat} (hi : i ∈ ids) (he : enc cs ad σ i = arI cs σ i n) (d : decode cc pc = .ok (.arraylength, 1)) (kk : Wx p l e R s m args below meth c D cs ids ad A H0 nL Q mc ms σ (pc + 1) lo (jI (n : Int) :: st)) : Wx p l e R s m args below meth c D cs ids ad A H0 nL Q mc ms σ pc lo (.ref (ad i) :: st) := fun H locs ls hP hS hl => va_alen X.1 X.2.1 K.1 (pic_one hP hi he) 0 0 rfl rfl (iI_nat n) d (kk H locs ls hP hS hl)
def mcopy (σ : Mem) (a b : Ix) (n : Int) : Mem := fun q j => if q = b ∧ 0 ≤ j ∧ j < n then σ a j else σ q j
theorem mcopy_id {σ : Mem} {a b q : Ix} {n : Int} (h : q ≠ b) : mcopy σ a b n q = σ q := funext fun _ => if_neg fun e => h e.1
theorem mcopy_in {σ : Mem} {a b : Ix} {n j : Int} (h0 : 0 ≤ j) (h1 : j < n) : mcopy σ a b n b j = σ a j := if_pos ⟨rfl, h0, h1⟩
theorem mcopy_out {σ : Mem} {a b : Ix} {n j : Int} (h : j < 0 ∨ n ≤ j) : mcopy σ a b n b j = σ b j := if_neg fun e => by omega
theorem zr_copy (X : Cx p s m args meth c cc nL own) (K : Kx D cs ids ad A s) {i0 i1 : Ix} {n0 n1 index : Nat} {n : Int} (hi0 : i0 ∈ ids) (hi1 : i1 ∈ ids) (he0 : enc cs ad σ i0 = arI cs σ i0 n0) (he1 : ∀ τ, enc cs ad τ i1 = arI cs τ i1 n1) (hq : owner i1 = i1) (hb0 : n0 < 2147483648) (hb1 : n1 < 2147483648) (hn : 0 ≤ n ∧ n ≤ n0 ∧ n ≤ n1) (hw1 : Cond.methodLink own index arraycopyName ∈ TB) (hw2 : Cond.native arraycopyName ∈ TB) (hw3 : Cond.static arraycopyName ∈ TB) (hw4 : Cond.initialized "java/lang/System" ∈ TB) (hR : 1 ≤ R.frames ∧ (st.map fun v => v.category).sum + (nativeFrameWords "java/lang/System" "arraycopy" 5 + 11) ≤ R.locals) (d : decode cc pc = .ok (.invokestatic index, 3)) (kk : Wx p l e R s m args below meth c D cs ids ad A H0 nL Q mc ms (mcopy σ i0 i1 n) (pc + 3) lo st) : Wx p l e R s m args below meth c D cs ids ad A H0 nL Q mc ms σ pc lo (jI n :: jI 0 :: .ref (ad i1) :: jI 0 :: .ref (ad i0) :: st) := fun H locs ls hP hS hl => by
  obtain ⟨q0, g1, g2⟩ := ids_place (cs := cs) (ad := ad) (σ := σ) hi0
  obtain ⟨q1, h1, h2⟩ := ids_place (cs := cs) (ad := ad) (σ := σ) hi1
  rw [he0] at g2
  rw [he1] at h2
  have hc0 : (iI 0).toNatClampNeg = 0 := rfl
  have hcn : (iI n).toNatClampNeg = n.toNat := iI_clamp hn.1 (by omega)
  refine va_copyi X.1 X.2.1 (X.2.2.1.trans hl.1.symm) X.2.2.2.1 (X.2.2.2.2.1 _ hw1) (X.2.2.2.2.1 _ hw2) (X.2.2.2.2.1 _ hw3) (X.2.2.2.2.1 _ hw4) K.1 (pic_P hP) (pic_D K.2.2.2.1 K.2.1 K.2.2.1) hS q0 q1 0 0 g2 h2 rfl rfl rfl (by decide) (by decide) (by rw [iI_0, iI_lt ⟨by omega, by omega⟩ ⟨by omega, by omega⟩]; omega) (by rw [hc0, hcn]; omega) (by rw [hc0, hcn]; omega) (fun _ _ => rfl) hR.1 hR.2 d (fun H1 locs1 hP1 _ hS1 => kk H1 locs1 ls (pic_set K.2.2.2.1 h1 hP1 ?_ (fun q hq' => (mcopy_id (fun e => hq' (by rw [e]; exact hq))).symm)) hS1 hl)
  rw [he1, hc0, hcn]
  show (Sum.inl (cs 0, n1, Sum.inl _) : va_E) = _
  congr 4
  funext j
  show iI (mcopy σ i0 i1 n i1 (j : Int)) = va_cpy (fun j => iI (σ i0 (j : Int))) (fun j => iI (σ i1 (j : Int))) 0 0 n.toNat j
  by_cases h : j < n.toNat
  · rw [mcopy_in (by omega) (by omega), pk_cpy_in (by omega) (by omega)]
    simp
  · rw [mcopy_out (by omega), pk_cpy_out (by omega)]
theorem zr_min (X : Cx p s m args meth c cc nL own) {index : Nat} {x y : Int} (hw1 : Cond.methodLink own index Lib.Math.min.name ∈ TB) (hw2 : Cond.static Lib.Math.min.name ∈ TB) (hw3 : Cond.initialized "java/lang/Math" ∈ TB) (hw4 : Cond.code Lib.Math.min.name Lib.Math.min.code 2 (some .int) ∈ TB) (hR : 1 ≤ R.frames ∧ (st.map fun v => v.category).sum + 13 ≤ R.locals ∧ mc ≤ R.cells ∧ ms ≤ R.slots) (hx : rg x) (hy : rg y) (d : decode cc pc = .ok (.invokestatic index, 3)) (kk : ∀ w : Int, (w = x ∨ w = y) ∧ w ≤ x ∧ w ≤ y → Wx p l e R s m args below meth c D cs ids ad A H0 nL Q mc ms σ (pc + 3) lo (jI w :: st)) : Wx p l e R s m args below meth c D cs ids ad A H0 nL Q mc ms σ pc lo (jI y :: jI x :: st) := fun H locs ls hP hS hl => by
  refine va_mmin X.1 X.2.1 (X.2.2.1.trans hl.1.symm) X.2.2.2.1 (X.2.2.2.2.1 _ hw1) (X.2.2.2.2.1 _ hw2) (X.2.2.2.2.1 _ hw3) (X.2.2.2.2.1 _ hw4) hR.1 hR.2.1 hR.2.2.1 hR.2.2.2 d ?_
  by_cases h : y < x
  · rw [if_pos ((iI_lt hy hx).mpr h)]
    exact kk y ⟨Or.inr rfl, by omega, Int.le_refl y⟩ H locs ls hP hS hl
  · rw [if_neg (fun h1 => h ((iI_lt hy hx).mp h1))]
    exact kk x ⟨Or.inl rfl, Int.le_refl x, by omega⟩ H locs ls hP hS hl
end ZM
