section ZDB
variable {p : Program} {l : Launch} {e : Env} {R : Room} {s : State} {m : MethodId} {args : Array Value} {below : List Frame} {meth : Method} {c : Code} {D : va_G} {cs : Nat → ClassId} {ids : List Ix} {ad : Ix → Nat} {A : Nat → Prop} {H0 : Heap} {nL : Nat} {Q : State → Prop} {mc ms : Nat} {σ : Mem} {pc : Nat} {lo : List (Option Value)} {st : List Value} {cc : ByteArray} {own : String}
/-- a call that comes back with a double, as the library says it -/
theorem zr_dback (X : Cx p s m args meth c cc nL own) {y : MethodName} {bytes : ByteArray} {maxL index n : Nat} {As st1 : List Value} {z : UInt64} {Pre : Pt → Array Value → Prop} {Post : Pt → Array Value → Option Value → Pt → Prop} (hK : Back l R p e below s args y 3 8 Pre Post) (L : lkS own index y bytes maxL (some .double)) (hd : dcl y n) (hst : st1 = As.reverse ++ st) (hn : As.length = n) (hW : (st.map fun v => v.category).sum ≤ 8) (hR : 0 + 1 ≤ R.frames ∧ 8 + (maxL + 11) + (100 + 60 * 0) ≤ R.locals)
    (hpre : ∀ P, Pre P As.toArray) (hpost : ∀ P v B, Post P As.toArray v B → B = P ∧ v = some (.double z)) (d : decode cc pc = .ok (.invokestatic index, 3))
    (kk : Wx p l e R s m args below meth c D cs ids ad A H0 nL Q mc ms σ (pc + 3) lo (.double z :: st)) : Wx p l e R s m args below meth c D cs ids ad A H0 nL Q mc ms σ pc lo st1 := fun H locs ls hP hS hl => by
  subst hst
  obtain ⟨⟨-, -, -, -, -, -, hcode, hini, hy, hlen, hlk⟩, hstt⟩ := cb_S (mc1 := 0) (ms1 := 0) (h := 0) X L hd hR
  intro T hT Xs
  obtain ⟨v, vm₁, B, hW₁, X', hq, hs⟩ := callS Xs X.1 (bytes := bytes) (maxL := maxL) (ret := some .double) X.2.2.2.1 hlk hstt hini hcode hy hK (g := F0 m pc ls (As.reverse ++ st)) rfl (hl.1.trans X.2.2.1.symm) (argsL := As) (rest := st) (fun sig h => hn.trans (hlen sig h)) rfl (by show 2 * 0 + _ ≤ 8; omega) (by rw [X.2.1]; exact d) (fun vm₁ hW₁ => hpre _)
  obtain ⟨rfl, rfl⟩ := hpost _ _ _ hq
  obtain ⟨t2, a1, b1⟩ := kk H locs ls hP hS hl (T.setVm vm₁) hT X'
  exact ⟨t2, hs t2 a1, b1⟩
end ZDB
