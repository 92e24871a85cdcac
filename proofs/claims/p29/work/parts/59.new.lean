/-! THE CONSTRUCTORS -/
def wIn (W : va_W) (a b : Nat) : Prop := ∀ x ∈ W, a ≤ x.1 ∧ x.1 < b
theorem wIn_nil {a b : Nat} : wIn [] a b := fun _ h => by cases h
theorem wIn_cons {W : va_W} {a b b' : Nat} {x : Nat × va_E} (h : wIn W a b) (hb : b ≤ b') (h1 : a ≤ x.1) (h2 : x.1 < b') : wIn (x :: W) a b' := fun y hy => by
  rcases List.mem_cons.mp hy with rfl | hy
  · exact ⟨h1, h2⟩
  · have := h y hy
    exact ⟨this.1, Nat.lt_of_lt_of_le this.2 hb⟩
theorem wIn_app {V W : va_W} {a b a' b' : Nat} (h : wIn W a b) (k : wIn V a' b') (h1 : a ≤ a') (h2 : b ≤ b') : wIn (V ++ W) a b' := fun y hy => by
  rcases List.mem_append.mp hy with hy | hy
  · have := k y hy
    exact ⟨Nat.le_trans h1 this.1, this.2⟩
  · have := h y hy
    exact ⟨this.1, Nat.lt_of_lt_of_le this.2 h2⟩
theorem wIn_mna (cs : Nat → ClassId) (q N M : Nat) : wIn (mnaW cs q N M) q (q + (1 + N)) := fun y hy => by
  rcases List.mem_cons.mp hy with rfl | hy
  · exact ⟨Nat.le_refl _, by show q < _; omega⟩
  · obtain ⟨i, hi, rfl⟩ := List.mem_map.mp hy
    have := List.mem_range.mp hi
    exact ⟨by show q ≤ q + 1 + i; omega, by show q + 1 + i < _; omega⟩
section ZSW
variable {p : Program} {l : Launch} {e : Env} {R : Room} {s : State} {m : MethodId} {args : Array Value} {below : List Frame} {meth : Method} {c : Code} {D : va_G} {A : Nat → Prop} {nL : Nat} {Q : State → Prop} {mc ms sz : Nat} {ws : va_W} {pc : Nat} {lo : List (Option Value)} {st : List Value}
theorem wn_swap {a : Nat × va_E} (V : va_W) (k : Wn p l e R s m args below meth c D A s.heap nL Q mc ms sz (a :: (V ++ ws)) pc lo st) : Wn p l e R s m args below meth c D A s.heap nL Q mc ms sz (V ++ a :: ws) pc lo st := wn_sub (fun x hx => by
  rcases List.mem_cons.mp hx with rfl | hx
  · exact List.mem_append_right _ List.mem_cons_self
  · rcases List.mem_append.mp hx with hx | hx
    · exact List.mem_append_left _ hx
    · exact List.mem_append_right _ (List.mem_cons_of_mem _ hx)) k
end ZSW
def wFlow (cs : Nat → ClassId) (h z n : Nat) : va_W := [(h, .inr (1, [.ref n, .ref z, .ref (z + 1)])), (z, .inl (cs 0, 80, .inl (fun _ => iI 0))), (z + 1, .inl (cs 0, 80, .inl (fun _ => iI 0)))]
def wRouter (cs : Nat → ClassId) (h z n f : Nat) : va_W := [(h, .inr (5, [.ref n, .ref f, .ref z, .ref (z + 1), .ref (z + 2), jI 0, jI 0])), (z, .inl (cs 0, 24, .inl (fun _ => iI 0))), (z + 1, .inl (cs 0, 24, .inl (fun _ => iI 0))), (z + 2, .inl (cs 0, 24, .inl (fun _ => iI 0)))]
def wNet (cs : Nat → ClassId) (h z : Nat) : va_W := (h, .inr (4, [jI 0, jI 0, .ref z, .ref (z + 1), .ref (z + 2), .ref (z + 3)])) :: (z, .inl (cs 0, 80, .inl (fun _ => iI 0))) :: (z + 1, .inl (cs 0, 80, .inl (fun _ => iI 0))) :: (z + 2, .inl (cs 0, 24, .inl (fun _ => iI 0))) :: mnaW cs (z + 3) 24 80
def wMax (cs : Nat → ClassId) (h z n : Nat) : va_W := (h, .inr (3, [.ref n, .ref z, .ref (z + 3), jI (-1), jI (-1), jI 0])) :: (wFlow cs z (z + 1) n ++ wRouter cs (z + 3) (z + 4) n z)
def wLev (cs : Nat → ClassId) (h z : Nat) : va_W := (h, .inr (2, [jI 0, .ref z, .ref (z + 9), .ref (z + 10)])) :: (z + 9, .inl (cs 0, 8, .inl (fun _ => iI 0))) :: (z + 10, .inl (cs 0, 8, .inl (fun _ => iI 0))) :: mnaW cs z 8 80
def wCut (cs : Nat → ClassId) (h z : Nat) : va_W := [(h, .inr (0, [jI 0, .ref z, .ref (z + 1)])), (z, .inl (cs 0, 300, .inl (fun _ => iI 0))), (z + 1, .inl (cs 0, 24, .inl (fun _ => iI 0)))]
def wFn (cs : Nat → ClassId) (h z : Nat) : va_W := (h, .inr (6, [.ref z, .ref (z + 29), .ref (z + 37), .ref (z + 45), .ref (z + 57)])) :: (wNet cs z (z + 1) ++ (wMax cs (z + 29) (z + 30) z ++ (wMax cs (z + 37) (z + 38) z ++ (wLev cs (z + 45) (z + 46) ++ wCut cs (z + 57) (z + 58)))))

theorem wIn_Flow (cs : Nat → ClassId) (q n : Nat) : wIn (wFlow cs q (q + 1) n) q (q + 3) := wIn_cons (wIn_cons (wIn_cons (b := q + 3) wIn_nil (Nat.le_refl _) (by show q ≤ q + 1 + 1; omega) (by show q + 1 + 1 < q + 3; omega)) (Nat.le_refl _) (by show q ≤ q + 1; omega) (by show q + 1 < q + 3; omega)) (Nat.le_refl _) (Nat.le_refl _) (by show q < q + 3; omega)
theorem wIn_Router (cs : Nat → ClassId) (q n f : Nat) : wIn (wRouter cs q (q + 1) n f) q (q + 4) := wIn_cons (wIn_cons (wIn_cons (wIn_cons (b := q + 4) wIn_nil (Nat.le_refl _) (by show q ≤ q + 1 + 2; omega) (by show q + 1 + 2 < q + 4; omega)) (Nat.le_refl _) (by show q ≤ q + 1 + 1; omega) (by show q + 1 + 1 < q + 4; omega)) (Nat.le_refl _) (by show q ≤ q + 1; omega) (by show q + 1 < q + 4; omega)) (Nat.le_refl _) (Nat.le_refl _) (by show q < q + 4; omega)
theorem wIn_Net (cs : Nat → ClassId) (q : Nat) : wIn (wNet cs q (q + 1)) q (q + 29) := wIn_cons (wIn_cons (wIn_cons (wIn_cons (b := q + 29) (fun x hx => by
  have := wIn_mna cs (q + 1 + 3) 24 80 x hx
  exact ⟨by omega, by omega⟩) (Nat.le_refl _) (by show q ≤ q + 1 + 2; omega) (by show q + 1 + 2 < q + 29; omega)) (Nat.le_refl _) (by show q ≤ q + 1 + 1; omega) (by show q + 1 + 1 < q + 29; omega)) (Nat.le_refl _) (by show q ≤ q + 1; omega) (by show q + 1 < q + 29; omega)) (Nat.le_refl _) (Nat.le_refl _) (by show q < q + 29; omega)
theorem wIn_Max (cs : Nat → ClassId) (q n : Nat) : wIn (wMax cs q (q + 1) n) q (q + 8) := wIn_cons (b := q + 8) (fun x hx => by
  rcases List.mem_append.mp hx with hx | hx
  · have := wIn_Flow cs (q + 1) n x hx
    exact ⟨by omega, by omega⟩
  · have := wIn_Router cs (q + 1 + 3) n (q + 1) x hx
    exact ⟨by omega, by omega⟩) (Nat.le_refl _) (Nat.le_refl _) (by show q < q + 8; omega)
theorem wIn_Lev (cs : Nat → ClassId) (q : Nat) : wIn (wLev cs q (q + 1)) q (q + 12) := wIn_cons (wIn_cons (wIn_cons (b := q + 12) (fun x hx => by
  have := wIn_mna cs (q + 1) 8 80 x hx
  exact ⟨by omega, by omega⟩) (Nat.le_refl _) (by show q ≤ q + 1 + 10; omega) (by show q + 1 + 10 < q + 12; omega)) (Nat.le_refl _) (by show q ≤ q + 1 + 9; omega) (by show q + 1 + 9 < q + 12; omega)) (Nat.le_refl _) (Nat.le_refl _) (by show q < q + 12; omega)
theorem wIn_Cut (cs : Nat → ClassId) (q : Nat) : wIn (wCut cs q (q + 1)) q (q + 3) := wIn_cons (wIn_cons (wIn_cons (b := q + 3) wIn_nil (Nat.le_refl _) (by show q ≤ q + 1 + 1; omega) (by show q + 1 + 1 < q + 3; omega)) (Nat.le_refl _) (by show q ≤ q + 1; omega) (by show q + 1 < q + 3; omega)) (Nat.le_refl _) (Nat.le_refl _) (by show q < q + 3; omega)

theorem dc_X1_init : dcl yX1_init 1 := ⟨by decide, by decide, by decide +kernel⟩
theorem dc_X5_init : dcl yX5_init 2 := ⟨by decide, by decide, by decide +kernel⟩
theorem dc_X4_init : dcl yX4_init 0 := ⟨by decide, by decide, by decide +kernel⟩
theorem dc_X3_init : dcl yX3_init 1 := ⟨by decide, by decide, by decide +kernel⟩
theorem dc_X2_init : dcl yX2_init 0 := ⟨by decide, by decide, by decide +kernel⟩
theorem dc_X0_init : dcl yX0_init 0 := ⟨by decide, by decide, by decide +kernel⟩
theorem dc_X6_init : dcl yX6_init 0 := ⟨by decide, by decide, by decide +kernel⟩

set_option maxHeartbeats 4000000 in
set_option maxRecDepth 100000 in
theorem c_Flow_new (l : Launch) (D : va_G) (cs : Nat → ClassId) (h0 z : Nat) (n0 : Nat) (hz : h0 < z) : CN l D cs yX1_init cX1_init 2 1 2 160 z h0 [(.ref n0)] (1, [.null, .null, .null]) (wFlow cs h0 z n0) 2 := by
  refine CN.of RX1 (by decide) rfl rfl (Nat.le_of_ble_eq_true rfl) ?_
  intro pg ev s0 mi av bl mt cd X K hr hin2 hlt
  have hg0 : wIn [] z z := wIn_nil
  refine wn_aloadn X dX1_init_0 rfl ?_
  refine wn_obj X tw_79 dX1_init_1 ⟨Nat.le_of_ble_eq_true rfl, Nat.le_of_ble_eq_true rfl⟩ ?_
  refine wn_aloadn X dX1_init_4 rfl ?_
  refine wn_bipush X dX1_init_5 rfl ?_
  refine wn_newI X K (N := 80) rfl (by decide) ⟨Nat.le_of_ble_eq_true rfl, Nat.le_of_ble_eq_true rfl⟩ dX1_init_7 ?_
  refine wn_swap [(z, .inl (cs 0, 80, .inl (fun _ => iI 0)))] ?_
  have hg1 : wIn ((z, .inl (cs 0, 80, .inl (fun _ => iI 0))) :: []) z (z + 1) := wIn_cons hg0 (by omega) (by show z ≤ z; omega) (by show z < z + 1; omega)
  show Wn pg l ev (rmm 1 2 160) s0 mi av bl mt cd D (RgC h0 z) s0.heap 2 (MQ bl (va_Qv (fun (_ : Unit) => True) (fun _ t => (∀ x ∈ wFlow cs h0 z n0, va_at D vwCl x t.heap) ∧ t.heap.size = z + 2) (RgC h0 z)) av s0 2 160 (RgC h0 z)) 1 80 (z + 1) ((h0, .inr (1, [.null, .null, .null])) :: ((z, .inl (cs 0, 80, .inl (fun _ => iI 0))) :: [])) 9 [some (.ref h0), some (.ref n0)] [(.ref z), (.ref h0)]
  refine wn_putF X K (C := RX1) (T := TX1) (ty0 := tyX1) (N := 3) (k := 1) hin2 (Or.inl rfl) (fun x hx e => by have := (hg1 x hx).1; have : x.1 = h0 := e; omega) rfl ti_1 tyX1_ok nmX1 (by decide) rfl rfl tw_81 rfl rfl rfl (Nat.le_of_ble_eq_true rfl) dX1_init_9 ?_
  show Wn pg l ev (rmm 1 2 160) s0 mi av bl mt cd D (RgC h0 z) s0.heap 2 (MQ bl (va_Qv (fun (_ : Unit) => True) (fun _ t => (∀ x ∈ wFlow cs h0 z n0, va_at D vwCl x t.heap) ∧ t.heap.size = z + 2) (RgC h0 z)) av s0 2 160 (RgC h0 z)) 1 80 (z + 1) ((h0, .inr (1, [.null, .ref z, .null])) :: ((z, .inl (cs 0, 80, .inl (fun _ => iI 0))) :: [])) 12 [some (.ref h0), some (.ref n0)] []
  refine wn_aloadn X dX1_init_12 rfl ?_
  refine wn_bipush X dX1_init_13 rfl ?_
  refine wn_newI X K (N := 80) rfl (by decide) ⟨Nat.le_of_ble_eq_true rfl, Nat.le_of_ble_eq_true rfl⟩ dX1_init_15 ?_
  refine wn_swap [(z + 1, .inl (cs 0, 80, .inl (fun _ => iI 0)))] ?_
  have hg2 : wIn ((z + 1, .inl (cs 0, 80, .inl (fun _ => iI 0))) :: ((z, .inl (cs 0, 80, .inl (fun _ => iI 0))) :: [])) z (z + 2) := wIn_cons hg1 (by omega) (by show z ≤ z + 1; omega) (by show z + 1 < z + 2; omega)
  show Wn pg l ev (rmm 1 2 160) s0 mi av bl mt cd D (RgC h0 z) s0.heap 2 (MQ bl (va_Qv (fun (_ : Unit) => True) (fun _ t => (∀ x ∈ wFlow cs h0 z n0, va_at D vwCl x t.heap) ∧ t.heap.size = z + 2) (RgC h0 z)) av s0 2 160 (RgC h0 z)) 2 160 (z + 2) ((h0, .inr (1, [.null, .ref z, .null])) :: ((z + 1, .inl (cs 0, 80, .inl (fun _ => iI 0))) :: ((z, .inl (cs 0, 80, .inl (fun _ => iI 0))) :: []))) 17 [some (.ref h0), some (.ref n0)] [(.ref (z + 1)), (.ref h0)]
  refine wn_putF X K (C := RX1) (T := TX1) (ty0 := tyX1) (N := 3) (k := 2) hin2 (Or.inl rfl) (fun x hx e => by have := (hg2 x hx).1; have : x.1 = h0 := e; omega) rfl ti_1 tyX1_ok nmX1 (by decide) rfl rfl tw_84 rfl rfl rfl (Nat.le_of_ble_eq_true rfl) dX1_init_17 ?_
  show Wn pg l ev (rmm 1 2 160) s0 mi av bl mt cd D (RgC h0 z) s0.heap 2 (MQ bl (va_Qv (fun (_ : Unit) => True) (fun _ t => (∀ x ∈ wFlow cs h0 z n0, va_at D vwCl x t.heap) ∧ t.heap.size = z + 2) (RgC h0 z)) av s0 2 160 (RgC h0 z)) 2 160 (z + 2) ((h0, .inr (1, [.null, .ref z, .ref (z + 1)])) :: ((z + 1, .inl (cs 0, 80, .inl (fun _ => iI 0))) :: ((z, .inl (cs 0, 80, .inl (fun _ => iI 0))) :: []))) 20 [some (.ref h0), some (.ref n0)] []
  refine wn_aloadn X dX1_init_20 rfl ?_
  refine wn_aloadn X dX1_init_21 rfl ?_
  refine wn_putF X K (C := RX1) (T := TX1) (ty0 := tyX1) (N := 3) (k := 0) hin2 (Or.inl rfl) (fun x hx e => by have := (hg2 x hx).1; have : x.1 = h0 := e; omega) rfl ti_1 tyX1_ok nmX1 (by decide) rfl rfl tw_80 rfl rfl rfl (Nat.le_of_ble_eq_true rfl) dX1_init_22 ?_
  show Wn pg l ev (rmm 1 2 160) s0 mi av bl mt cd D (RgC h0 z) s0.heap 2 (MQ bl (va_Qv (fun (_ : Unit) => True) (fun _ t => (∀ x ∈ wFlow cs h0 z n0, va_at D vwCl x t.heap) ∧ t.heap.size = z + 2) (RgC h0 z)) av s0 2 160 (RgC h0 z)) 2 160 (z + 2) ((h0, .inr (1, [.ref n0, .ref z, .ref (z + 1)])) :: ((z + 1, .inl (cs 0, 80, .inl (fun _ => iI 0))) :: ((z, .inl (cs 0, 80, .inl (fun _ => iI 0))) :: []))) 25 [some (.ref h0), some (.ref n0)] []
  refine wn_ret X hr ⟨rfl, rfl⟩ rfl (fun x hx => ?_) dX1_init_25
  simp only [wFlow, List.mem_cons, List.mem_append, List.not_mem_nil, or_false, List.nil_append, List.append_nil] at hx ⊢
  first | exact hx | grind

set_option maxHeartbeats 4000000 in
set_option maxRecDepth 100000 in
theorem c_Router_new (l : Launch) (D : va_G) (cs : Nat → ClassId) (h0 z : Nat) (n0 f0 : Nat) (hz : h0 < z) : CN l D cs yX5_init cX5_init 3 1 3 72 z h0 [(.ref n0), (.ref f0)] (5, [.null, .null, .null, .null, .null, jI 0, jI 0]) (wRouter cs h0 z n0 f0) 3 := by
  refine CN.of RX5 (by decide) rfl rfl (Nat.le_of_ble_eq_true rfl) ?_
  intro pg ev s0 mi av bl mt cd X K hr hin2 hlt
  have hg0 : wIn [] z z := wIn_nil
  refine wn_aloadn X dX5_init_0 rfl ?_
  refine wn_obj X tw_99 dX5_init_1 ⟨Nat.le_of_ble_eq_true rfl, Nat.le_of_ble_eq_true rfl⟩ ?_
  refine wn_aloadn X dX5_init_4 rfl ?_
  refine wn_bipush X dX5_init_5 rfl ?_
  refine wn_newI X K (N := 24) rfl (by decide) ⟨Nat.le_of_ble_eq_true rfl, Nat.le_of_ble_eq_true rfl⟩ dX5_init_7 ?_
  refine wn_swap [(z, .inl (cs 0, 24, .inl (fun _ => iI 0)))] ?_
  have hg1 : wIn ((z, .inl (cs 0, 24, .inl (fun _ => iI 0))) :: []) z (z + 1) := wIn_cons hg0 (by omega) (by show z ≤ z; omega) (by show z < z + 1; omega)
  show Wn pg l ev (rmm 1 3 72) s0 mi av bl mt cd D (RgC h0 z) s0.heap 3 (MQ bl (va_Qv (fun (_ : Unit) => True) (fun _ t => (∀ x ∈ wRouter cs h0 z n0 f0, va_at D vwCl x t.heap) ∧ t.heap.size = z + 3) (RgC h0 z)) av s0 3 72 (RgC h0 z)) 1 24 (z + 1) ((h0, .inr (5, [.null, .null, .null, .null, .null, jI 0, jI 0])) :: ((z, .inl (cs 0, 24, .inl (fun _ => iI 0))) :: [])) 9 [some (.ref h0), some (.ref n0), some (.ref f0)] [(.ref z), (.ref h0)]
  refine wn_putF X K (C := RX5) (T := TX5) (ty0 := tyX5) (N := 7) (k := 2) hin2 (Or.inl rfl) (fun x hx e => by have := (hg1 x hx).1; have : x.1 = h0 := e; omega) rfl ti_5 tyX5_ok nmX5 (by decide) rfl rfl tw_102 rfl rfl rfl (Nat.le_of_ble_eq_true rfl) dX5_init_9 ?_
  show Wn pg l ev (rmm 1 3 72) s0 mi av bl mt cd D (RgC h0 z) s0.heap 3 (MQ bl (va_Qv (fun (_ : Unit) => True) (fun _ t => (∀ x ∈ wRouter cs h0 z n0 f0, va_at D vwCl x t.heap) ∧ t.heap.size = z + 3) (RgC h0 z)) av s0 3 72 (RgC h0 z)) 1 24 (z + 1) ((h0, .inr (5, [.null, .null, .ref z, .null, .null, jI 0, jI 0])) :: ((z, .inl (cs 0, 24, .inl (fun _ => iI 0))) :: [])) 12 [some (.ref h0), some (.ref n0), some (.ref f0)] []
  refine wn_aloadn X dX5_init_12 rfl ?_
  refine wn_bipush X dX5_init_13 rfl ?_
  refine wn_newI X K (N := 24) rfl (by decide) ⟨Nat.le_of_ble_eq_true rfl, Nat.le_of_ble_eq_true rfl⟩ dX5_init_15 ?_
  refine wn_swap [(z + 1, .inl (cs 0, 24, .inl (fun _ => iI 0)))] ?_
  have hg2 : wIn ((z + 1, .inl (cs 0, 24, .inl (fun _ => iI 0))) :: ((z, .inl (cs 0, 24, .inl (fun _ => iI 0))) :: [])) z (z + 2) := wIn_cons hg1 (by omega) (by show z ≤ z + 1; omega) (by show z + 1 < z + 2; omega)
  show Wn pg l ev (rmm 1 3 72) s0 mi av bl mt cd D (RgC h0 z) s0.heap 3 (MQ bl (va_Qv (fun (_ : Unit) => True) (fun _ t => (∀ x ∈ wRouter cs h0 z n0 f0, va_at D vwCl x t.heap) ∧ t.heap.size = z + 3) (RgC h0 z)) av s0 3 72 (RgC h0 z)) 2 48 (z + 2) ((h0, .inr (5, [.null, .null, .ref z, .null, .null, jI 0, jI 0])) :: ((z + 1, .inl (cs 0, 24, .inl (fun _ => iI 0))) :: ((z, .inl (cs 0, 24, .inl (fun _ => iI 0))) :: []))) 17 [some (.ref h0), some (.ref n0), some (.ref f0)] [(.ref (z + 1)), (.ref h0)]
  refine wn_putF X K (C := RX5) (T := TX5) (ty0 := tyX5) (N := 7) (k := 3) hin2 (Or.inl rfl) (fun x hx e => by have := (hg2 x hx).1; have : x.1 = h0 := e; omega) rfl ti_5 tyX5_ok nmX5 (by decide) rfl rfl tw_103 rfl rfl rfl (Nat.le_of_ble_eq_true rfl) dX5_init_17 ?_
  show Wn pg l ev (rmm 1 3 72) s0 mi av bl mt cd D (RgC h0 z) s0.heap 3 (MQ bl (va_Qv (fun (_ : Unit) => True) (fun _ t => (∀ x ∈ wRouter cs h0 z n0 f0, va_at D vwCl x t.heap) ∧ t.heap.size = z + 3) (RgC h0 z)) av s0 3 72 (RgC h0 z)) 2 48 (z + 2) ((h0, .inr (5, [.null, .null, .ref z, .ref (z + 1), .null, jI 0, jI 0])) :: ((z + 1, .inl (cs 0, 24, .inl (fun _ => iI 0))) :: ((z, .inl (cs 0, 24, .inl (fun _ => iI 0))) :: []))) 20 [some (.ref h0), some (.ref n0), some (.ref f0)] []
  refine wn_aloadn X dX5_init_20 rfl ?_
  refine wn_bipush X dX5_init_21 rfl ?_
  refine wn_newI X K (N := 24) rfl (by decide) ⟨Nat.le_of_ble_eq_true rfl, Nat.le_of_ble_eq_true rfl⟩ dX5_init_23 ?_
  refine wn_swap [(z + 2, .inl (cs 0, 24, .inl (fun _ => iI 0)))] ?_
  have hg3 : wIn ((z + 2, .inl (cs 0, 24, .inl (fun _ => iI 0))) :: ((z + 1, .inl (cs 0, 24, .inl (fun _ => iI 0))) :: ((z, .inl (cs 0, 24, .inl (fun _ => iI 0))) :: []))) z (z + 3) := wIn_cons hg2 (by omega) (by show z ≤ z + 2; omega) (by show z + 2 < z + 3; omega)
  show Wn pg l ev (rmm 1 3 72) s0 mi av bl mt cd D (RgC h0 z) s0.heap 3 (MQ bl (va_Qv (fun (_ : Unit) => True) (fun _ t => (∀ x ∈ wRouter cs h0 z n0 f0, va_at D vwCl x t.heap) ∧ t.heap.size = z + 3) (RgC h0 z)) av s0 3 72 (RgC h0 z)) 3 72 (z + 3) ((h0, .inr (5, [.null, .null, .ref z, .ref (z + 1), .null, jI 0, jI 0])) :: ((z + 2, .inl (cs 0, 24, .inl (fun _ => iI 0))) :: ((z + 1, .inl (cs 0, 24, .inl (fun _ => iI 0))) :: ((z, .inl (cs 0, 24, .inl (fun _ => iI 0))) :: [])))) 25 [some (.ref h0), some (.ref n0), some (.ref f0)] [(.ref (z + 2)), (.ref h0)]
  refine wn_putF X K (C := RX5) (T := TX5) (ty0 := tyX5) (N := 7) (k := 4) hin2 (Or.inl rfl) (fun x hx e => by have := (hg3 x hx).1; have : x.1 = h0 := e; omega) rfl ti_5 tyX5_ok nmX5 (by decide) rfl rfl tw_104 rfl rfl rfl (Nat.le_of_ble_eq_true rfl) dX5_init_25 ?_
  show Wn pg l ev (rmm 1 3 72) s0 mi av bl mt cd D (RgC h0 z) s0.heap 3 (MQ bl (va_Qv (fun (_ : Unit) => True) (fun _ t => (∀ x ∈ wRouter cs h0 z n0 f0, va_at D vwCl x t.heap) ∧ t.heap.size = z + 3) (RgC h0 z)) av s0 3 72 (RgC h0 z)) 3 72 (z + 3) ((h0, .inr (5, [.null, .null, .ref z, .ref (z + 1), .ref (z + 2), jI 0, jI 0])) :: ((z + 2, .inl (cs 0, 24, .inl (fun _ => iI 0))) :: ((z + 1, .inl (cs 0, 24, .inl (fun _ => iI 0))) :: ((z, .inl (cs 0, 24, .inl (fun _ => iI 0))) :: [])))) 28 [some (.ref h0), some (.ref n0), some (.ref f0)] []
  refine wn_aloadn X dX5_init_28 rfl ?_
  refine wn_aloadn X dX5_init_29 rfl ?_
  refine wn_putF X K (C := RX5) (T := TX5) (ty0 := tyX5) (N := 7) (k := 0) hin2 (Or.inl rfl) (fun x hx e => by have := (hg3 x hx).1; have : x.1 = h0 := e; omega) rfl ti_5 tyX5_ok nmX5 (by decide) rfl rfl tw_100 rfl rfl rfl (Nat.le_of_ble_eq_true rfl) dX5_init_30 ?_
  show Wn pg l ev (rmm 1 3 72) s0 mi av bl mt cd D (RgC h0 z) s0.heap 3 (MQ bl (va_Qv (fun (_ : Unit) => True) (fun _ t => (∀ x ∈ wRouter cs h0 z n0 f0, va_at D vwCl x t.heap) ∧ t.heap.size = z + 3) (RgC h0 z)) av s0 3 72 (RgC h0 z)) 3 72 (z + 3) ((h0, .inr (5, [.ref n0, .null, .ref z, .ref (z + 1), .ref (z + 2), jI 0, jI 0])) :: ((z + 2, .inl (cs 0, 24, .inl (fun _ => iI 0))) :: ((z + 1, .inl (cs 0, 24, .inl (fun _ => iI 0))) :: ((z, .inl (cs 0, 24, .inl (fun _ => iI 0))) :: [])))) 33 [some (.ref h0), some (.ref n0), some (.ref f0)] []
  refine wn_aloadn X dX5_init_33 rfl ?_
  refine wn_aloadn X dX5_init_34 rfl ?_
  refine wn_putF X K (C := RX5) (T := TX5) (ty0 := tyX5) (N := 7) (k := 1) hin2 (Or.inl rfl) (fun x hx e => by have := (hg3 x hx).1; have : x.1 = h0 := e; omega) rfl ti_5 tyX5_ok nmX5 (by decide) rfl rfl tw_101 rfl rfl rfl (Nat.le_of_ble_eq_true rfl) dX5_init_35 ?_
  show Wn pg l ev (rmm 1 3 72) s0 mi av bl mt cd D (RgC h0 z) s0.heap 3 (MQ bl (va_Qv (fun (_ : Unit) => True) (fun _ t => (∀ x ∈ wRouter cs h0 z n0 f0, va_at D vwCl x t.heap) ∧ t.heap.size = z + 3) (RgC h0 z)) av s0 3 72 (RgC h0 z)) 3 72 (z + 3) ((h0, .inr (5, [.ref n0, .ref f0, .ref z, .ref (z + 1), .ref (z + 2), jI 0, jI 0])) :: ((z + 2, .inl (cs 0, 24, .inl (fun _ => iI 0))) :: ((z + 1, .inl (cs 0, 24, .inl (fun _ => iI 0))) :: ((z, .inl (cs 0, 24, .inl (fun _ => iI 0))) :: [])))) 38 [some (.ref h0), some (.ref n0), some (.ref f0)] []
  refine wn_ret X hr ⟨rfl, rfl⟩ rfl (fun x hx => ?_) dX5_init_38
  simp only [wRouter, List.mem_cons, List.mem_append, List.not_mem_nil, or_false, List.nil_append, List.append_nil] at hx ⊢
  first | exact hx | grind

set_option maxHeartbeats 4000000 in
set_option maxRecDepth 100000 in
theorem c_Net_new (l : Launch) (D : va_G) (cs : Nat → ClassId) (h0 z : Nat) (hz : h0 < z) : CN l D cs yX4_init cX4_init 1 1 28 2128 z h0 [] (4, [jI 0, jI 0, .null, .null, .null, .null]) (wNet cs h0 z) 28 := by
  refine CN.of RX4 (by decide) rfl rfl (Nat.le_of_ble_eq_true rfl) ?_
  intro pg ev s0 mi av bl mt cd X K hr hin2 hlt
  have hg0 : wIn [] z z := wIn_nil
  refine wn_aloadn X dX4_init_0 rfl ?_
  refine wn_obj X tw_30 dX4_init_1 ⟨Nat.le_of_ble_eq_true rfl, Nat.le_of_ble_eq_true rfl⟩ ?_
  refine wn_aloadn X dX4_init_4 rfl ?_
  refine wn_bipush X dX4_init_5 rfl ?_
  refine wn_newI X K (N := 80) rfl (by decide) ⟨Nat.le_of_ble_eq_true rfl, Nat.le_of_ble_eq_true rfl⟩ dX4_init_7 ?_
  refine wn_swap [(z, .inl (cs 0, 80, .inl (fun _ => iI 0)))] ?_
  have hg1 : wIn ((z, .inl (cs 0, 80, .inl (fun _ => iI 0))) :: []) z (z + 1) := wIn_cons hg0 (by omega) (by show z ≤ z; omega) (by show z < z + 1; omega)
  show Wn pg l ev (rmm 1 28 2128) s0 mi av bl mt cd D (RgC h0 z) s0.heap 1 (MQ bl (va_Qv (fun (_ : Unit) => True) (fun _ t => (∀ x ∈ wNet cs h0 z, va_at D vwCl x t.heap) ∧ t.heap.size = z + 28) (RgC h0 z)) av s0 28 2128 (RgC h0 z)) 1 80 (z + 1) ((h0, .inr (4, [jI 0, jI 0, .null, .null, .null, .null])) :: ((z, .inl (cs 0, 80, .inl (fun _ => iI 0))) :: [])) 9 [some (.ref h0)] [(.ref z), (.ref h0)]
  refine wn_putF X K (C := RX4) (T := TX4) (ty0 := tyX4) (N := 6) (k := 2) hin2 (Or.inl rfl) (fun x hx e => by have := (hg1 x hx).1; have : x.1 = h0 := e; omega) rfl ti_4 tyX4_ok nmX4 (by decide) rfl rfl tw_42 rfl rfl rfl (Nat.le_of_ble_eq_true rfl) dX4_init_9 ?_
  show Wn pg l ev (rmm 1 28 2128) s0 mi av bl mt cd D (RgC h0 z) s0.heap 1 (MQ bl (va_Qv (fun (_ : Unit) => True) (fun _ t => (∀ x ∈ wNet cs h0 z, va_at D vwCl x t.heap) ∧ t.heap.size = z + 28) (RgC h0 z)) av s0 28 2128 (RgC h0 z)) 1 80 (z + 1) ((h0, .inr (4, [jI 0, jI 0, .ref z, .null, .null, .null])) :: ((z, .inl (cs 0, 80, .inl (fun _ => iI 0))) :: [])) 12 [some (.ref h0)] []
  refine wn_aloadn X dX4_init_12 rfl ?_
  refine wn_bipush X dX4_init_13 rfl ?_
  refine wn_newI X K (N := 80) rfl (by decide) ⟨Nat.le_of_ble_eq_true rfl, Nat.le_of_ble_eq_true rfl⟩ dX4_init_15 ?_
  refine wn_swap [(z + 1, .inl (cs 0, 80, .inl (fun _ => iI 0)))] ?_
  have hg2 : wIn ((z + 1, .inl (cs 0, 80, .inl (fun _ => iI 0))) :: ((z, .inl (cs 0, 80, .inl (fun _ => iI 0))) :: [])) z (z + 2) := wIn_cons hg1 (by omega) (by show z ≤ z + 1; omega) (by show z + 1 < z + 2; omega)
  show Wn pg l ev (rmm 1 28 2128) s0 mi av bl mt cd D (RgC h0 z) s0.heap 1 (MQ bl (va_Qv (fun (_ : Unit) => True) (fun _ t => (∀ x ∈ wNet cs h0 z, va_at D vwCl x t.heap) ∧ t.heap.size = z + 28) (RgC h0 z)) av s0 28 2128 (RgC h0 z)) 2 160 (z + 2) ((h0, .inr (4, [jI 0, jI 0, .ref z, .null, .null, .null])) :: ((z + 1, .inl (cs 0, 80, .inl (fun _ => iI 0))) :: ((z, .inl (cs 0, 80, .inl (fun _ => iI 0))) :: []))) 17 [some (.ref h0)] [(.ref (z + 1)), (.ref h0)]
  refine wn_putF X K (C := RX4) (T := TX4) (ty0 := tyX4) (N := 6) (k := 3) hin2 (Or.inl rfl) (fun x hx e => by have := (hg2 x hx).1; have : x.1 = h0 := e; omega) rfl ti_4 tyX4_ok nmX4 (by decide) rfl rfl tw_46 rfl rfl rfl (Nat.le_of_ble_eq_true rfl) dX4_init_17 ?_
  show Wn pg l ev (rmm 1 28 2128) s0 mi av bl mt cd D (RgC h0 z) s0.heap 1 (MQ bl (va_Qv (fun (_ : Unit) => True) (fun _ t => (∀ x ∈ wNet cs h0 z, va_at D vwCl x t.heap) ∧ t.heap.size = z + 28) (RgC h0 z)) av s0 28 2128 (RgC h0 z)) 2 160 (z + 2) ((h0, .inr (4, [jI 0, jI 0, .ref z, .ref (z + 1), .null, .null])) :: ((z + 1, .inl (cs 0, 80, .inl (fun _ => iI 0))) :: ((z, .inl (cs 0, 80, .inl (fun _ => iI 0))) :: []))) 20 [some (.ref h0)] []
  refine wn_aloadn X dX4_init_20 rfl ?_
  refine wn_bipush X dX4_init_21 rfl ?_
  refine wn_newI X K (N := 24) rfl (by decide) ⟨Nat.le_of_ble_eq_true rfl, Nat.le_of_ble_eq_true rfl⟩ dX4_init_23 ?_
  refine wn_swap [(z + 2, .inl (cs 0, 24, .inl (fun _ => iI 0)))] ?_
  have hg3 : wIn ((z + 2, .inl (cs 0, 24, .inl (fun _ => iI 0))) :: ((z + 1, .inl (cs 0, 80, .inl (fun _ => iI 0))) :: ((z, .inl (cs 0, 80, .inl (fun _ => iI 0))) :: []))) z (z + 3) := wIn_cons hg2 (by omega) (by show z ≤ z + 2; omega) (by show z + 2 < z + 3; omega)
  show Wn pg l ev (rmm 1 28 2128) s0 mi av bl mt cd D (RgC h0 z) s0.heap 1 (MQ bl (va_Qv (fun (_ : Unit) => True) (fun _ t => (∀ x ∈ wNet cs h0 z, va_at D vwCl x t.heap) ∧ t.heap.size = z + 28) (RgC h0 z)) av s0 28 2128 (RgC h0 z)) 3 184 (z + 3) ((h0, .inr (4, [jI 0, jI 0, .ref z, .ref (z + 1), .null, .null])) :: ((z + 2, .inl (cs 0, 24, .inl (fun _ => iI 0))) :: ((z + 1, .inl (cs 0, 80, .inl (fun _ => iI 0))) :: ((z, .inl (cs 0, 80, .inl (fun _ => iI 0))) :: [])))) 25 [some (.ref h0)] [(.ref (z + 2)), (.ref h0)]
  refine wn_putF X K (C := RX4) (T := TX4) (ty0 := tyX4) (N := 6) (k := 4) hin2 (Or.inl rfl) (fun x hx e => by have := (hg3 x hx).1; have : x.1 = h0 := e; omega) rfl ti_4 tyX4_ok nmX4 (by decide) rfl rfl tw_50 rfl rfl rfl (Nat.le_of_ble_eq_true rfl) dX4_init_25 ?_
  show Wn pg l ev (rmm 1 28 2128) s0 mi av bl mt cd D (RgC h0 z) s0.heap 1 (MQ bl (va_Qv (fun (_ : Unit) => True) (fun _ t => (∀ x ∈ wNet cs h0 z, va_at D vwCl x t.heap) ∧ t.heap.size = z + 28) (RgC h0 z)) av s0 28 2128 (RgC h0 z)) 3 184 (z + 3) ((h0, .inr (4, [jI 0, jI 0, .ref z, .ref (z + 1), .ref (z + 2), .null])) :: ((z + 2, .inl (cs 0, 24, .inl (fun _ => iI 0))) :: ((z + 1, .inl (cs 0, 80, .inl (fun _ => iI 0))) :: ((z, .inl (cs 0, 80, .inl (fun _ => iI 0))) :: [])))) 28 [some (.ref h0)] []
  refine wn_aloadn X dX4_init_28 rfl ?_
  refine wn_bipush X dX4_init_29 rfl ?_
  refine wn_bipush X dX4_init_31 rfl ?_
  refine wn_newM X K (N := 24) (M := 80) rfl rfl (by decide) (by decide) tw_31 ⟨Nat.le_of_ble_eq_true rfl, Nat.le_of_ble_eq_true rfl⟩ dX4_init_33 ?_
  refine wn_swap (mnaW cs (z + 3) 24 80) ?_
  have hg4 : wIn (mnaW cs (z + 3) 24 80 ++ ((z + 2, .inl (cs 0, 24, .inl (fun _ => iI 0))) :: ((z + 1, .inl (cs 0, 80, .inl (fun _ => iI 0))) :: ((z, .inl (cs 0, 80, .inl (fun _ => iI 0))) :: [])))) z (z + 28) := wIn_app hg3 (wIn_mna cs (z + 3) 24 80) (by omega) (by omega)
  show Wn pg l ev (rmm 1 28 2128) s0 mi av bl mt cd D (RgC h0 z) s0.heap 1 (MQ bl (va_Qv (fun (_ : Unit) => True) (fun _ t => (∀ x ∈ wNet cs h0 z, va_at D vwCl x t.heap) ∧ t.heap.size = z + 28) (RgC h0 z)) av s0 28 2128 (RgC h0 z)) 28 2128 (z + 28) ((h0, .inr (4, [jI 0, jI 0, .ref z, .ref (z + 1), .ref (z + 2), .null])) :: (mnaW cs (z + 3) 24 80 ++ ((z + 2, .inl (cs 0, 24, .inl (fun _ => iI 0))) :: ((z + 1, .inl (cs 0, 80, .inl (fun _ => iI 0))) :: ((z, .inl (cs 0, 80, .inl (fun _ => iI 0))) :: []))))) 37 [some (.ref h0)] [(.ref (z + 3)), (.ref h0)]
  refine wn_putF X K (C := RX4) (T := TX4) (ty0 := tyX4) (N := 6) (k := 5) hin2 (Or.inl rfl) (fun x hx e => by have := (hg4 x hx).1; have : x.1 = h0 := e; omega) rfl ti_4 tyX4_ok nmX4 (by decide) rfl rfl tw_52 rfl rfl rfl (Nat.le_of_ble_eq_true rfl) dX4_init_37 ?_
  show Wn pg l ev (rmm 1 28 2128) s0 mi av bl mt cd D (RgC h0 z) s0.heap 1 (MQ bl (va_Qv (fun (_ : Unit) => True) (fun _ t => (∀ x ∈ wNet cs h0 z, va_at D vwCl x t.heap) ∧ t.heap.size = z + 28) (RgC h0 z)) av s0 28 2128 (RgC h0 z)) 28 2128 (z + 28) ((h0, .inr (4, [jI 0, jI 0, .ref z, .ref (z + 1), .ref (z + 2), .ref (z + 3)])) :: (mnaW cs (z + 3) 24 80 ++ ((z + 2, .inl (cs 0, 24, .inl (fun _ => iI 0))) :: ((z + 1, .inl (cs 0, 80, .inl (fun _ => iI 0))) :: ((z, .inl (cs 0, 80, .inl (fun _ => iI 0))) :: []))))) 40 [some (.ref h0)] []
  refine wn_ret X hr ⟨rfl, rfl⟩ rfl (fun x hx => ?_) dX4_init_40
  simp only [wNet, List.mem_cons, List.mem_append, List.not_mem_nil, or_false, List.nil_append, List.append_nil] at hx ⊢
  first | exact hx | grind

set_option maxHeartbeats 4000000 in
set_option maxRecDepth 100000 in
theorem c_Levels_new (l : Launch) (D : va_G) (cs : Nat → ClassId) (h0 z : Nat) (hz : h0 < z) : CN l D cs yX2_init cX2_init 1 1 11 664 z h0 [] (2, [jI 0, .null, .null, .null]) (wLev cs h0 z) 11 := by
  refine CN.of RX2 (by decide) rfl rfl (Nat.le_of_ble_eq_true rfl) ?_
  intro pg ev s0 mi av bl mt cd X K hr hin2 hlt
  have hg0 : wIn [] z z := wIn_nil
  refine wn_aloadn X dX2_init_0 rfl ?_
  refine wn_obj X tw_150 dX2_init_1 ⟨Nat.le_of_ble_eq_true rfl, Nat.le_of_ble_eq_true rfl⟩ ?_
  refine wn_aloadn X dX2_init_4 rfl ?_
  refine wn_bipush X dX2_init_5 rfl ?_
  refine wn_bipush X dX2_init_7 rfl ?_
  refine wn_newM X K (N := 8) (M := 80) rfl rfl (by decide) (by decide) tw_151 ⟨Nat.le_of_ble_eq_true rfl, Nat.le_of_ble_eq_true rfl⟩ dX2_init_9 ?_
  refine wn_swap (mnaW cs (z) 8 80) ?_
  have hg1 : wIn (mnaW cs (z) 8 80 ++ []) z (z + 9) := wIn_app hg0 (wIn_mna cs (z) 8 80) (by omega) (by omega)
  show Wn pg l ev (rmm 1 11 664) s0 mi av bl mt cd D (RgC h0 z) s0.heap 1 (MQ bl (va_Qv (fun (_ : Unit) => True) (fun _ t => (∀ x ∈ wLev cs h0 z, va_at D vwCl x t.heap) ∧ t.heap.size = z + 11) (RgC h0 z)) av s0 11 664 (RgC h0 z)) 9 648 (z + 9) ((h0, .inr (2, [jI 0, .null, .null, .null])) :: (mnaW cs (z) 8 80 ++ [])) 13 [some (.ref h0)] [(.ref z), (.ref h0)]
  refine wn_putF X K (C := RX2) (T := TX2) (ty0 := tyX2) (N := 4) (k := 1) hin2 (Or.inl rfl) (fun x hx e => by have := (hg1 x hx).1; have : x.1 = h0 := e; omega) rfl ti_2 tyX2_ok nmX2 (by decide) rfl rfl tw_152 rfl rfl rfl (Nat.le_of_ble_eq_true rfl) dX2_init_13 ?_
  show Wn pg l ev (rmm 1 11 664) s0 mi av bl mt cd D (RgC h0 z) s0.heap 1 (MQ bl (va_Qv (fun (_ : Unit) => True) (fun _ t => (∀ x ∈ wLev cs h0 z, va_at D vwCl x t.heap) ∧ t.heap.size = z + 11) (RgC h0 z)) av s0 11 664 (RgC h0 z)) 9 648 (z + 9) ((h0, .inr (2, [jI 0, .ref z, .null, .null])) :: (mnaW cs (z) 8 80 ++ [])) 16 [some (.ref h0)] []
  refine wn_aloadn X dX2_init_16 rfl ?_
  refine wn_bipush X dX2_init_17 rfl ?_
  refine wn_newI X K (N := 8) rfl (by decide) ⟨Nat.le_of_ble_eq_true rfl, Nat.le_of_ble_eq_true rfl⟩ dX2_init_19 ?_
  refine wn_swap [(z + 9, .inl (cs 0, 8, .inl (fun _ => iI 0)))] ?_
  have hg2 : wIn ((z + 9, .inl (cs 0, 8, .inl (fun _ => iI 0))) :: (mnaW cs (z) 8 80 ++ [])) z (z + 10) := wIn_cons hg1 (by omega) (by show z ≤ z + 9; omega) (by show z + 9 < z + 10; omega)
  show Wn pg l ev (rmm 1 11 664) s0 mi av bl mt cd D (RgC h0 z) s0.heap 1 (MQ bl (va_Qv (fun (_ : Unit) => True) (fun _ t => (∀ x ∈ wLev cs h0 z, va_at D vwCl x t.heap) ∧ t.heap.size = z + 11) (RgC h0 z)) av s0 11 664 (RgC h0 z)) 10 656 (z + 10) ((h0, .inr (2, [jI 0, .ref z, .null, .null])) :: ((z + 9, .inl (cs 0, 8, .inl (fun _ => iI 0))) :: (mnaW cs (z) 8 80 ++ []))) 21 [some (.ref h0)] [(.ref (z + 9)), (.ref h0)]
  refine wn_putF X K (C := RX2) (T := TX2) (ty0 := tyX2) (N := 4) (k := 2) hin2 (Or.inl rfl) (fun x hx e => by have := (hg2 x hx).1; have : x.1 = h0 := e; omega) rfl ti_2 tyX2_ok nmX2 (by decide) rfl rfl tw_153 rfl rfl rfl (Nat.le_of_ble_eq_true rfl) dX2_init_21 ?_
  show Wn pg l ev (rmm 1 11 664) s0 mi av bl mt cd D (RgC h0 z) s0.heap 1 (MQ bl (va_Qv (fun (_ : Unit) => True) (fun _ t => (∀ x ∈ wLev cs h0 z, va_at D vwCl x t.heap) ∧ t.heap.size = z + 11) (RgC h0 z)) av s0 11 664 (RgC h0 z)) 10 656 (z + 10) ((h0, .inr (2, [jI 0, .ref z, .ref (z + 9), .null])) :: ((z + 9, .inl (cs 0, 8, .inl (fun _ => iI 0))) :: (mnaW cs (z) 8 80 ++ []))) 24 [some (.ref h0)] []
  refine wn_aloadn X dX2_init_24 rfl ?_
  refine wn_bipush X dX2_init_25 rfl ?_
  refine wn_newI X K (N := 8) rfl (by decide) ⟨Nat.le_of_ble_eq_true rfl, Nat.le_of_ble_eq_true rfl⟩ dX2_init_27 ?_
  refine wn_swap [(z + 10, .inl (cs 0, 8, .inl (fun _ => iI 0)))] ?_
  have hg3 : wIn ((z + 10, .inl (cs 0, 8, .inl (fun _ => iI 0))) :: ((z + 9, .inl (cs 0, 8, .inl (fun _ => iI 0))) :: (mnaW cs (z) 8 80 ++ []))) z (z + 11) := wIn_cons hg2 (by omega) (by show z ≤ z + 10; omega) (by show z + 10 < z + 11; omega)
  show Wn pg l ev (rmm 1 11 664) s0 mi av bl mt cd D (RgC h0 z) s0.heap 1 (MQ bl (va_Qv (fun (_ : Unit) => True) (fun _ t => (∀ x ∈ wLev cs h0 z, va_at D vwCl x t.heap) ∧ t.heap.size = z + 11) (RgC h0 z)) av s0 11 664 (RgC h0 z)) 11 664 (z + 11) ((h0, .inr (2, [jI 0, .ref z, .ref (z + 9), .null])) :: ((z + 10, .inl (cs 0, 8, .inl (fun _ => iI 0))) :: ((z + 9, .inl (cs 0, 8, .inl (fun _ => iI 0))) :: (mnaW cs (z) 8 80 ++ [])))) 29 [some (.ref h0)] [(.ref (z + 10)), (.ref h0)]
  refine wn_putF X K (C := RX2) (T := TX2) (ty0 := tyX2) (N := 4) (k := 3) hin2 (Or.inl rfl) (fun x hx e => by have := (hg3 x hx).1; have : x.1 = h0 := e; omega) rfl ti_2 tyX2_ok nmX2 (by decide) rfl rfl tw_154 rfl rfl rfl (Nat.le_of_ble_eq_true rfl) dX2_init_29 ?_
  show Wn pg l ev (rmm 1 11 664) s0 mi av bl mt cd D (RgC h0 z) s0.heap 1 (MQ bl (va_Qv (fun (_ : Unit) => True) (fun _ t => (∀ x ∈ wLev cs h0 z, va_at D vwCl x t.heap) ∧ t.heap.size = z + 11) (RgC h0 z)) av s0 11 664 (RgC h0 z)) 11 664 (z + 11) ((h0, .inr (2, [jI 0, .ref z, .ref (z + 9), .ref (z + 10)])) :: ((z + 10, .inl (cs 0, 8, .inl (fun _ => iI 0))) :: ((z + 9, .inl (cs 0, 8, .inl (fun _ => iI 0))) :: (mnaW cs (z) 8 80 ++ [])))) 32 [some (.ref h0)] []
  refine wn_ret X hr ⟨rfl, rfl⟩ rfl (fun x hx => ?_) dX2_init_32
  simp only [wLev, List.mem_cons, List.mem_append, List.not_mem_nil, or_false, List.nil_append, List.append_nil] at hx ⊢
  first | exact hx | grind

set_option maxHeartbeats 4000000 in
set_option maxRecDepth 100000 in
theorem c_Cuts_new (l : Launch) (D : va_G) (cs : Nat → ClassId) (h0 z : Nat) (hz : h0 < z) : CN l D cs yX0_init cX0_init 1 1 2 324 z h0 [] (0, [jI 0, .null, .null]) (wCut cs h0 z) 2 := by
  refine CN.of RX0 (by decide) rfl rfl (Nat.le_of_ble_eq_true rfl) ?_
  intro pg ev s0 mi av bl mt cd X K hr hin2 hlt
  have hg0 : wIn [] z z := wIn_nil
  refine wn_aloadn X dX0_init_0 rfl ?_
  refine wn_obj X tw_169 dX0_init_1 ⟨Nat.le_of_ble_eq_true rfl, Nat.le_of_ble_eq_true rfl⟩ ?_
  refine wn_aloadn X dX0_init_4 rfl ?_
  refine wn_sipush X dX0_init_5 rfl ?_
  refine wn_newI X K (N := 300) rfl (by decide) ⟨Nat.le_of_ble_eq_true rfl, Nat.le_of_ble_eq_true rfl⟩ dX0_init_8 ?_
  refine wn_swap [(z, .inl (cs 0, 300, .inl (fun _ => iI 0)))] ?_
  have hg1 : wIn ((z, .inl (cs 0, 300, .inl (fun _ => iI 0))) :: []) z (z + 1) := wIn_cons hg0 (by omega) (by show z ≤ z; omega) (by show z < z + 1; omega)
  show Wn pg l ev (rmm 1 2 324) s0 mi av bl mt cd D (RgC h0 z) s0.heap 1 (MQ bl (va_Qv (fun (_ : Unit) => True) (fun _ t => (∀ x ∈ wCut cs h0 z, va_at D vwCl x t.heap) ∧ t.heap.size = z + 2) (RgC h0 z)) av s0 2 324 (RgC h0 z)) 1 300 (z + 1) ((h0, .inr (0, [jI 0, .null, .null])) :: ((z, .inl (cs 0, 300, .inl (fun _ => iI 0))) :: [])) 10 [some (.ref h0)] [(.ref z), (.ref h0)]
  refine wn_putF X K (C := RX0) (T := TX0) (ty0 := tyX0) (N := 3) (k := 1) hin2 (Or.inl rfl) (fun x hx e => by have := (hg1 x hx).1; have : x.1 = h0 := e; omega) rfl ti_0 tyX0_ok nmX0 (by decide) rfl rfl tw_170 rfl rfl rfl (Nat.le_of_ble_eq_true rfl) dX0_init_10 ?_
  show Wn pg l ev (rmm 1 2 324) s0 mi av bl mt cd D (RgC h0 z) s0.heap 1 (MQ bl (va_Qv (fun (_ : Unit) => True) (fun _ t => (∀ x ∈ wCut cs h0 z, va_at D vwCl x t.heap) ∧ t.heap.size = z + 2) (RgC h0 z)) av s0 2 324 (RgC h0 z)) 1 300 (z + 1) ((h0, .inr (0, [jI 0, .ref z, .null])) :: ((z, .inl (cs 0, 300, .inl (fun _ => iI 0))) :: [])) 13 [some (.ref h0)] []
  refine wn_aloadn X dX0_init_13 rfl ?_
  refine wn_bipush X dX0_init_14 rfl ?_
  refine wn_newI X K (N := 24) rfl (by decide) ⟨Nat.le_of_ble_eq_true rfl, Nat.le_of_ble_eq_true rfl⟩ dX0_init_16 ?_
  refine wn_swap [(z + 1, .inl (cs 0, 24, .inl (fun _ => iI 0)))] ?_
  have hg2 : wIn ((z + 1, .inl (cs 0, 24, .inl (fun _ => iI 0))) :: ((z, .inl (cs 0, 300, .inl (fun _ => iI 0))) :: [])) z (z + 2) := wIn_cons hg1 (by omega) (by show z ≤ z + 1; omega) (by show z + 1 < z + 2; omega)
  show Wn pg l ev (rmm 1 2 324) s0 mi av bl mt cd D (RgC h0 z) s0.heap 1 (MQ bl (va_Qv (fun (_ : Unit) => True) (fun _ t => (∀ x ∈ wCut cs h0 z, va_at D vwCl x t.heap) ∧ t.heap.size = z + 2) (RgC h0 z)) av s0 2 324 (RgC h0 z)) 2 324 (z + 2) ((h0, .inr (0, [jI 0, .ref z, .null])) :: ((z + 1, .inl (cs 0, 24, .inl (fun _ => iI 0))) :: ((z, .inl (cs 0, 300, .inl (fun _ => iI 0))) :: []))) 18 [some (.ref h0)] [(.ref (z + 1)), (.ref h0)]
  refine wn_putF X K (C := RX0) (T := TX0) (ty0 := tyX0) (N := 3) (k := 2) hin2 (Or.inl rfl) (fun x hx e => by have := (hg2 x hx).1; have : x.1 = h0 := e; omega) rfl ti_0 tyX0_ok nmX0 (by decide) rfl rfl tw_171 rfl rfl rfl (Nat.le_of_ble_eq_true rfl) dX0_init_18 ?_
  show Wn pg l ev (rmm 1 2 324) s0 mi av bl mt cd D (RgC h0 z) s0.heap 1 (MQ bl (va_Qv (fun (_ : Unit) => True) (fun _ t => (∀ x ∈ wCut cs h0 z, va_at D vwCl x t.heap) ∧ t.heap.size = z + 2) (RgC h0 z)) av s0 2 324 (RgC h0 z)) 2 324 (z + 2) ((h0, .inr (0, [jI 0, .ref z, .ref (z + 1)])) :: ((z + 1, .inl (cs 0, 24, .inl (fun _ => iI 0))) :: ((z, .inl (cs 0, 300, .inl (fun _ => iI 0))) :: []))) 21 [some (.ref h0)] []
  refine wn_ret X hr ⟨rfl, rfl⟩ rfl (fun x hx => ?_) dX0_init_21
  simp only [wCut, List.mem_cons, List.mem_append, List.not_mem_nil, or_false, List.nil_append, List.append_nil] at hx ⊢
  first | exact hx | grind

set_option maxHeartbeats 4000000 in
set_option maxRecDepth 100000 in
theorem c_Max_new (l : Launch) (D : va_G) (cs : Nat → ClassId) (h0 z : Nat) (n0 : Nat) (hz : h0 < z) : CN l D cs yX3_init cX3_init 3 2 7 242 z h0 [(.ref n0)] (3, [.null, .null, .null, jI 0, jI 0, jI 0]) (wMax cs h0 z n0) 7 := by
  refine CN.of RX3 (by decide) rfl rfl (Nat.le_of_ble_eq_true rfl) ?_
  intro pg ev s0 mi av bl mt cd X K hr hin2 hlt
  have hg0 : wIn [] z z := wIn_nil
  refine wn_aloadn X dX3_init_0 rfl ?_
  refine wn_obj X tw_73 dX3_init_1 ⟨Nat.le_of_ble_eq_true rfl, Nat.le_of_ble_eq_true rfl⟩ ?_
  refine wn_aloadn X dX3_init_4 rfl ?_
  refine wn_iconst X dX3_init_5 ?_
  refine wn_put X K (C := RX3) (T := TX3) (ty0 := tyX3) (N := 6) (k := 3) (Or.inl rfl) (fun x hx e => by have := (hg0 x hx).1; have : x.1 = h0 := e; omega) rfl ti_3 tyX3_ok nmX3 (by decide) rfl tw_127 rfl rfl rfl (Nat.le_of_ble_eq_true rfl) dX3_init_6 ?_
  show Wn pg l ev (rmm 2 7 242) s0 mi av bl mt cd D (RgC h0 z) s0.heap 3 (MQ bl (va_Qv (fun (_ : Unit) => True) (fun _ t => (∀ x ∈ wMax cs h0 z n0, va_at D vwCl x t.heap) ∧ t.heap.size = z + 7) (RgC h0 z)) av s0 7 242 (RgC h0 z)) 0 0 (z) ((h0, .inr (3, [.null, .null, .null, jI (-1), jI 0, jI 0])) :: []) 9 [some (.ref h0), some (.ref n0), none] []
  refine wn_aloadn X dX3_init_9 rfl ?_
  refine wn_iconst X dX3_init_10 ?_
  refine wn_put X K (C := RX3) (T := TX3) (ty0 := tyX3) (N := 6) (k := 4) (Or.inl rfl) (fun x hx e => by have := (hg0 x hx).1; have : x.1 = h0 := e; omega) rfl ti_3 tyX3_ok nmX3 (by decide) rfl tw_129 rfl rfl rfl (Nat.le_of_ble_eq_true rfl) dX3_init_11 ?_
  show Wn pg l ev (rmm 2 7 242) s0 mi av bl mt cd D (RgC h0 z) s0.heap 3 (MQ bl (va_Qv (fun (_ : Unit) => True) (fun _ t => (∀ x ∈ wMax cs h0 z n0, va_at D vwCl x t.heap) ∧ t.heap.size = z + 7) (RgC h0 z)) av s0 7 242 (RgC h0 z)) 0 0 (z) ((h0, .inr (3, [.null, .null, .null, jI (-1), jI (-1), jI 0])) :: []) 14 [some (.ref h0), some (.ref n0), none] []
  refine wn_newO X K (C := RX1) (T := TX1) (N := 3) (ci := 1) (fs := [.null, .null, .null]) rfl ti_1 tyX1 tyX1_ok tw_74 tw_75 tw_4 (fun j hj => by rcases (show j = 0 ∨ j = 1 ∨ j = 2 by omega) with rfl | rfl | rfl <;> rfl) ⟨Nat.le_of_ble_eq_true rfl, Nat.le_of_ble_eq_true rfl⟩ dX3_init_14 ?_
  show Wn pg l ev (rmm 2 7 242) s0 mi av bl mt cd D (RgC h0 z) s0.heap 3 (MQ bl (va_Qv (fun (_ : Unit) => True) (fun _ t => (∀ x ∈ wMax cs h0 z n0, va_at D vwCl x t.heap) ∧ t.heap.size = z + 7) (RgC h0 z)) av s0 7 242 (RgC h0 z)) 1 3 (z + 1) ((z, .inr (1, [.null, .null, .null])) :: (h0, .inr (3, [.null, .null, .null, jI (-1), jI (-1), jI 0])) :: []) 17 [some (.ref h0), some (.ref n0), none] [(.ref z)]
  refine wn_dup X dX3_init_17 rfl ?_
  refine wn_aloadn X dX3_init_18 rfl ?_
  refine wn_callN X K (h0 := z) (As := [(.ref n0)]) (st := [(.ref z)]) (c_Flow_new l D cs (z) (z + 1) (n0) (by omega)) rfl ⟨tn_76, tw_77, tw_4, tw_78⟩ dc_X1_init rfl rfl (List.forall_mem_cons.mpr ⟨by show h0 ≠ z; omega, fun x hx e => by have := (hg0 x hx).2; have : x.1 = z := e; omega⟩) (Or.inr (by omega)) (fun q hq => Or.inr (by omega)) (Nat.le_of_ble_eq_true rfl) (by decide) dX3_init_19 ?_
  refine wn_swap (wFlow cs (z) (z + 1) (n0)) ?_
  have hg1 : wIn (wFlow cs (z) (z + 1) (n0) ++ []) z (z + 3) := wIn_app (b' := z + 3) hg0 (wIn_Flow cs (z) (n0)) (by omega) (by omega)
  show Wn pg l ev (rmm 2 7 242) s0 mi av bl mt cd D (RgC h0 z) s0.heap 3 (MQ bl (va_Qv (fun (_ : Unit) => True) (fun _ t => (∀ x ∈ wMax cs h0 z n0, va_at D vwCl x t.heap) ∧ t.heap.size = z + 7) (RgC h0 z)) av s0 7 242 (RgC h0 z)) 3 163 (z + 3) ((h0, .inr (3, [.null, .null, .null, jI (-1), jI (-1), jI 0])) :: (wFlow cs (z) (z + 1) (n0) ++ [])) 22 [some (.ref h0), some (.ref n0), none] [(.ref z)]
  refine wn_astoren X dX3_init_22 (by decide) rfl ?_
  show Wn pg l ev (rmm 2 7 242) s0 mi av bl mt cd D (RgC h0 z) s0.heap 3 (MQ bl (va_Qv (fun (_ : Unit) => True) (fun _ t => (∀ x ∈ wMax cs h0 z n0, va_at D vwCl x t.heap) ∧ t.heap.size = z + 7) (RgC h0 z)) av s0 7 242 (RgC h0 z)) 3 163 (z + 3) ((h0, .inr (3, [.null, .null, .null, jI (-1), jI (-1), jI 0])) :: (wFlow cs (z) (z + 1) (n0) ++ [])) 23 [some (.ref h0), some (.ref n0), some (.ref z)] []
  refine wn_aloadn X dX3_init_23 rfl ?_
  refine wn_aloadn X dX3_init_24 rfl ?_
  refine wn_putF X K (C := RX3) (T := TX3) (ty0 := tyX3) (N := 6) (k := 0) hin2 (Or.inl rfl) (fun x hx e => by have := (hg1 x hx).1; have : x.1 = h0 := e; omega) rfl ti_3 tyX3_ok nmX3 (by decide) rfl rfl tw_122 rfl rfl rfl (Nat.le_of_ble_eq_true rfl) dX3_init_25 ?_
  show Wn pg l ev (rmm 2 7 242) s0 mi av bl mt cd D (RgC h0 z) s0.heap 3 (MQ bl (va_Qv (fun (_ : Unit) => True) (fun _ t => (∀ x ∈ wMax cs h0 z n0, va_at D vwCl x t.heap) ∧ t.heap.size = z + 7) (RgC h0 z)) av s0 7 242 (RgC h0 z)) 3 163 (z + 3) ((h0, .inr (3, [.ref n0, .null, .null, jI (-1), jI (-1), jI 0])) :: (wFlow cs (z) (z + 1) (n0) ++ [])) 28 [some (.ref h0), some (.ref n0), some (.ref z)] []
  refine wn_aloadn X dX3_init_28 rfl ?_
  refine wn_aloadn X dX3_init_29 rfl ?_
  refine wn_putF X K (C := RX3) (T := TX3) (ty0 := tyX3) (N := 6) (k := 1) hin2 (Or.inl rfl) (fun x hx e => by have := (hg1 x hx).1; have : x.1 = h0 := e; omega) rfl ti_3 tyX3_ok nmX3 (by decide) rfl rfl tw_123 rfl rfl rfl (Nat.le_of_ble_eq_true rfl) dX3_init_30 ?_
  show Wn pg l ev (rmm 2 7 242) s0 mi av bl mt cd D (RgC h0 z) s0.heap 3 (MQ bl (va_Qv (fun (_ : Unit) => True) (fun _ t => (∀ x ∈ wMax cs h0 z n0, va_at D vwCl x t.heap) ∧ t.heap.size = z + 7) (RgC h0 z)) av s0 7 242 (RgC h0 z)) 3 163 (z + 3) ((h0, .inr (3, [.ref n0, .ref z, .null, jI (-1), jI (-1), jI 0])) :: (wFlow cs (z) (z + 1) (n0) ++ [])) 33 [some (.ref h0), some (.ref n0), some (.ref z)] []
  refine wn_aloadn X dX3_init_33 rfl ?_
  refine wn_newO X K (C := RX5) (T := TX5) (N := 7) (ci := 5) (fs := [.null, .null, .null, .null, .null, jI 0, jI 0]) rfl ti_5 tyX5 tyX5_ok tw_94 tw_95 tw_5 (fun j hj => by rcases (show j = 0 ∨ j = 1 ∨ j = 2 ∨ j = 3 ∨ j = 4 ∨ j = 5 ∨ j = 6 by omega) with rfl | rfl | rfl | rfl | rfl | rfl | rfl <;> rfl) ⟨Nat.le_of_ble_eq_true rfl, Nat.le_of_ble_eq_true rfl⟩ dX3_init_34 ?_
  show Wn pg l ev (rmm 2 7 242) s0 mi av bl mt cd D (RgC h0 z) s0.heap 3 (MQ bl (va_Qv (fun (_ : Unit) => True) (fun _ t => (∀ x ∈ wMax cs h0 z n0, va_at D vwCl x t.heap) ∧ t.heap.size = z + 7) (RgC h0 z)) av s0 7 242 (RgC h0 z)) 4 170 (z + 4) ((z + 3, .inr (5, [.null, .null, .null, .null, .null, jI 0, jI 0])) :: (h0, .inr (3, [.ref n0, .ref z, .null, jI (-1), jI (-1), jI 0])) :: (wFlow cs (z) (z + 1) (n0) ++ [])) 37 [some (.ref h0), some (.ref n0), some (.ref z)] [(.ref (z + 3)), (.ref h0)]
  refine wn_dup X dX3_init_37 rfl ?_
  refine wn_aloadn X dX3_init_38 rfl ?_
  refine wn_aloadn X dX3_init_39 rfl ?_
  refine wn_callN X K (h0 := z + 3) (As := [(.ref n0), (.ref z)]) (st := [(.ref (z + 3)), (.ref h0)]) (c_Router_new l D cs (z + 3) (z + 4) (n0) (z) (by omega)) rfl ⟨tn_96, tw_97, tw_5, tw_98⟩ dc_X5_init rfl rfl (List.forall_mem_cons.mpr ⟨by show h0 ≠ z + 3; omega, fun x hx e => by have := (hg1 x hx).2; have : x.1 = z + 3 := e; omega⟩) (Or.inr (by omega)) (fun q hq => Or.inr (by omega)) (Nat.le_of_ble_eq_true rfl) (by decide) dX3_init_40 ?_
  refine wn_swap (wRouter cs (z + 3) (z + 4) (n0) (z)) ?_
  have hg2 : wIn (wRouter cs (z + 3) (z + 4) (n0) (z) ++ (wFlow cs (z) (z + 1) (n0) ++ [])) z (z + 7) := wIn_app (b' := z + 7) hg1 (wIn_Router cs (z + 3) (n0) (z)) (by omega) (by omega)
  show Wn pg l ev (rmm 2 7 242) s0 mi av bl mt cd D (RgC h0 z) s0.heap 3 (MQ bl (va_Qv (fun (_ : Unit) => True) (fun _ t => (∀ x ∈ wMax cs h0 z n0, va_at D vwCl x t.heap) ∧ t.heap.size = z + 7) (RgC h0 z)) av s0 7 242 (RgC h0 z)) 7 242 (z + 7) ((h0, .inr (3, [.ref n0, .ref z, .null, jI (-1), jI (-1), jI 0])) :: (wRouter cs (z + 3) (z + 4) (n0) (z) ++ (wFlow cs (z) (z + 1) (n0) ++ []))) 43 [some (.ref h0), some (.ref n0), some (.ref z)] [(.ref (z + 3)), (.ref h0)]
  refine wn_putF X K (C := RX3) (T := TX3) (ty0 := tyX3) (N := 6) (k := 2) hin2 (Or.inl rfl) (fun x hx e => by have := (hg2 x hx).1; have : x.1 = h0 := e; omega) rfl ti_3 tyX3_ok nmX3 (by decide) rfl rfl tw_125 rfl rfl rfl (Nat.le_of_ble_eq_true rfl) dX3_init_43 ?_
  show Wn pg l ev (rmm 2 7 242) s0 mi av bl mt cd D (RgC h0 z) s0.heap 3 (MQ bl (va_Qv (fun (_ : Unit) => True) (fun _ t => (∀ x ∈ wMax cs h0 z n0, va_at D vwCl x t.heap) ∧ t.heap.size = z + 7) (RgC h0 z)) av s0 7 242 (RgC h0 z)) 7 242 (z + 7) ((h0, .inr (3, [.ref n0, .ref z, .ref (z + 3), jI (-1), jI (-1), jI 0])) :: (wRouter cs (z + 3) (z + 4) (n0) (z) ++ (wFlow cs (z) (z + 1) (n0) ++ []))) 46 [some (.ref h0), some (.ref n0), some (.ref z)] []
  refine wn_ret X hr ⟨rfl, rfl⟩ rfl (fun x hx => ?_) dX3_init_46
  simp only [wMax, List.mem_cons, List.mem_append, List.not_mem_nil, or_false, List.nil_append, List.append_nil] at hx ⊢
  first | exact hx | grind

set_option maxHeartbeats 4000000 in
set_option maxRecDepth 100000 in
theorem c_Fn_new (l : Launch) (D : va_G) (cs : Nat → ClassId) (h0 z : Nat) (hz : h0 < z) : CN l D cs yX6_init cX6_init 2 3 60 3625 z h0 [] (6, [.null, .null, .null, .null, .null]) (wFn cs h0 z) 60 := by
  refine CN.of RX6 (by decide) rfl rfl (Nat.le_of_ble_eq_true rfl) ?_
  intro pg ev s0 mi av bl mt cd X K hr hin2 hlt
  have hg0 : wIn [] z z := wIn_nil
  refine wn_aloadn X dX6_init_0 rfl ?_
  refine wn_obj X tw_22 dX6_init_1 ⟨Nat.le_of_ble_eq_true rfl, Nat.le_of_ble_eq_true rfl⟩ ?_
  refine wn_newO X K (C := RX4) (T := TX4) (N := 6) (ci := 4) (fs := [jI 0, jI 0, .null, .null, .null, .null]) rfl ti_4 tyX4 tyX4_ok tw_25 tw_26 tw_2 (fun j hj => by rcases (show j = 0 ∨ j = 1 ∨ j = 2 ∨ j = 3 ∨ j = 4 ∨ j = 5 by omega) with rfl | rfl | rfl | rfl | rfl | rfl <;> rfl) ⟨Nat.le_of_ble_eq_true rfl, Nat.le_of_ble_eq_true rfl⟩ dX6_init_4 ?_
  show Wn pg l ev (rmm 3 60 3625) s0 mi av bl mt cd D (RgC h0 z) s0.heap 2 (MQ bl (va_Qv (fun (_ : Unit) => True) (fun _ t => (∀ x ∈ wFn cs h0 z, va_at D vwCl x t.heap) ∧ t.heap.size = z + 60) (RgC h0 z)) av s0 60 3625 (RgC h0 z)) 1 6 (z + 1) ((z, .inr (4, [jI 0, jI 0, .null, .null, .null, .null])) :: (h0, .inr (6, [.null, .null, .null, .null, .null])) :: []) 7 [some (.ref h0), none] [(.ref z)]
  refine wn_dup X dX6_init_7 rfl ?_
  refine wn_callN X K (h0 := z) (As := []) (st := [(.ref z)]) (c_Net_new l D cs (z) (z + 1) (by omega)) rfl ⟨tn_27, tw_28, tw_2, tw_29⟩ dc_X4_init rfl rfl (List.forall_mem_cons.mpr ⟨by show h0 ≠ z; omega, fun x hx e => by have := (hg0 x hx).2; have : x.1 = z := e; omega⟩) (Or.inr (by omega)) (fun q hq => Or.inr (by omega)) (Nat.le_of_ble_eq_true rfl) (by decide) dX6_init_8 ?_
  refine wn_swap (wNet cs (z) (z + 1)) ?_
  have hg1 : wIn (wNet cs (z) (z + 1) ++ []) z (z + 29) := wIn_app (b' := z + 29) hg0 (wIn_Net cs (z)) (by omega) (by omega)
  show Wn pg l ev (rmm 3 60 3625) s0 mi av bl mt cd D (RgC h0 z) s0.heap 2 (MQ bl (va_Qv (fun (_ : Unit) => True) (fun _ t => (∀ x ∈ wFn cs h0 z, va_at D vwCl x t.heap) ∧ t.heap.size = z + 60) (RgC h0 z)) av s0 60 3625 (RgC h0 z)) 29 2134 (z + 29) ((h0, .inr (6, [.null, .null, .null, .null, .null])) :: (wNet cs (z) (z + 1) ++ [])) 11 [some (.ref h0), none] [(.ref z)]
  refine wn_astoren X dX6_init_11 (by decide) rfl ?_
  show Wn pg l ev (rmm 3 60 3625) s0 mi av bl mt cd D (RgC h0 z) s0.heap 2 (MQ bl (va_Qv (fun (_ : Unit) => True) (fun _ t => (∀ x ∈ wFn cs h0 z, va_at D vwCl x t.heap) ∧ t.heap.size = z + 60) (RgC h0 z)) av s0 60 3625 (RgC h0 z)) 29 2134 (z + 29) ((h0, .inr (6, [.null, .null, .null, .null, .null])) :: (wNet cs (z) (z + 1) ++ [])) 12 [some (.ref h0), some (.ref z)] []
  refine wn_aloadn X dX6_init_12 rfl ?_
  refine wn_aloadn X dX6_init_13 rfl ?_
  refine wn_putF X K (C := RX6) (T := TX6) (ty0 := tyX6) (N := 5) (k := 0) hin2 (Or.inl rfl) (fun x hx e => by have := (hg1 x hx).1; have : x.1 = h0 := e; omega) rfl ti_6 tyX6_ok nmX6 (by decide) rfl rfl tw_179 rfl rfl rfl (Nat.le_of_ble_eq_true rfl) dX6_init_14 ?_
  show Wn pg l ev (rmm 3 60 3625) s0 mi av bl mt cd D (RgC h0 z) s0.heap 2 (MQ bl (va_Qv (fun (_ : Unit) => True) (fun _ t => (∀ x ∈ wFn cs h0 z, va_at D vwCl x t.heap) ∧ t.heap.size = z + 60) (RgC h0 z)) av s0 60 3625 (RgC h0 z)) 29 2134 (z + 29) ((h0, .inr (6, [.ref z, .null, .null, .null, .null])) :: (wNet cs (z) (z + 1) ++ [])) 17 [some (.ref h0), some (.ref z)] []
  refine wn_aloadn X dX6_init_17 rfl ?_
  refine wn_newO X K (C := RX3) (T := TX3) (N := 6) (ci := 3) (fs := [.null, .null, .null, jI 0, jI 0, jI 0]) rfl ti_3 tyX3 tyX3_ok tw_68 tw_69 tw_3 (fun j hj => by rcases (show j = 0 ∨ j = 1 ∨ j = 2 ∨ j = 3 ∨ j = 4 ∨ j = 5 by omega) with rfl | rfl | rfl | rfl | rfl | rfl <;> rfl) ⟨Nat.le_of_ble_eq_true rfl, Nat.le_of_ble_eq_true rfl⟩ dX6_init_18 ?_
  show Wn pg l ev (rmm 3 60 3625) s0 mi av bl mt cd D (RgC h0 z) s0.heap 2 (MQ bl (va_Qv (fun (_ : Unit) => True) (fun _ t => (∀ x ∈ wFn cs h0 z, va_at D vwCl x t.heap) ∧ t.heap.size = z + 60) (RgC h0 z)) av s0 60 3625 (RgC h0 z)) 30 2140 (z + 30) ((z + 29, .inr (3, [.null, .null, .null, jI 0, jI 0, jI 0])) :: (h0, .inr (6, [.ref z, .null, .null, .null, .null])) :: (wNet cs (z) (z + 1) ++ [])) 21 [some (.ref h0), some (.ref z)] [(.ref (z + 29)), (.ref h0)]
  refine wn_dup X dX6_init_21 rfl ?_
  refine wn_aloadn X dX6_init_22 rfl ?_
  refine wn_callN X K (h0 := z + 29) (As := [(.ref z)]) (st := [(.ref (z + 29)), (.ref h0)]) (c_Max_new l D cs (z + 29) (z + 30) (z) (by omega)) rfl ⟨tn_70, tw_71, tw_3, tw_72⟩ dc_X3_init rfl rfl (List.forall_mem_cons.mpr ⟨by show h0 ≠ z + 29; omega, fun x hx e => by have := (hg1 x hx).2; have : x.1 = z + 29 := e; omega⟩) (Or.inr (by omega)) (fun q hq => Or.inr (by omega)) (Nat.le_of_ble_eq_true rfl) (by decide) dX6_init_23 ?_
  refine wn_swap (wMax cs (z + 29) (z + 30) (z)) ?_
  have hg2 : wIn (wMax cs (z + 29) (z + 30) (z) ++ (wNet cs (z) (z + 1) ++ [])) z (z + 37) := wIn_app (b' := z + 37) hg1 (wIn_Max cs (z + 29) (z)) (by omega) (by omega)
  show Wn pg l ev (rmm 3 60 3625) s0 mi av bl mt cd D (RgC h0 z) s0.heap 2 (MQ bl (va_Qv (fun (_ : Unit) => True) (fun _ t => (∀ x ∈ wFn cs h0 z, va_at D vwCl x t.heap) ∧ t.heap.size = z + 60) (RgC h0 z)) av s0 60 3625 (RgC h0 z)) 37 2382 (z + 37) ((h0, .inr (6, [.ref z, .null, .null, .null, .null])) :: (wMax cs (z + 29) (z + 30) (z) ++ (wNet cs (z) (z + 1) ++ []))) 26 [some (.ref h0), some (.ref z)] [(.ref (z + 29)), (.ref h0)]
  refine wn_putF X K (C := RX6) (T := TX6) (ty0 := tyX6) (N := 5) (k := 1) hin2 (Or.inl rfl) (fun x hx e => by have := (hg2 x hx).1; have : x.1 = h0 := e; omega) rfl ti_6 tyX6_ok nmX6 (by decide) rfl rfl tw_180 rfl rfl rfl (Nat.le_of_ble_eq_true rfl) dX6_init_26 ?_
  show Wn pg l ev (rmm 3 60 3625) s0 mi av bl mt cd D (RgC h0 z) s0.heap 2 (MQ bl (va_Qv (fun (_ : Unit) => True) (fun _ t => (∀ x ∈ wFn cs h0 z, va_at D vwCl x t.heap) ∧ t.heap.size = z + 60) (RgC h0 z)) av s0 60 3625 (RgC h0 z)) 37 2382 (z + 37) ((h0, .inr (6, [.ref z, .ref (z + 29), .null, .null, .null])) :: (wMax cs (z + 29) (z + 30) (z) ++ (wNet cs (z) (z + 1) ++ []))) 29 [some (.ref h0), some (.ref z)] []
  refine wn_aloadn X dX6_init_29 rfl ?_
  refine wn_newO X K (C := RX3) (T := TX3) (N := 6) (ci := 3) (fs := [.null, .null, .null, jI 0, jI 0, jI 0]) rfl ti_3 tyX3 tyX3_ok tw_68 tw_69 tw_3 (fun j hj => by rcases (show j = 0 ∨ j = 1 ∨ j = 2 ∨ j = 3 ∨ j = 4 ∨ j = 5 by omega) with rfl | rfl | rfl | rfl | rfl | rfl <;> rfl) ⟨Nat.le_of_ble_eq_true rfl, Nat.le_of_ble_eq_true rfl⟩ dX6_init_30 ?_
  show Wn pg l ev (rmm 3 60 3625) s0 mi av bl mt cd D (RgC h0 z) s0.heap 2 (MQ bl (va_Qv (fun (_ : Unit) => True) (fun _ t => (∀ x ∈ wFn cs h0 z, va_at D vwCl x t.heap) ∧ t.heap.size = z + 60) (RgC h0 z)) av s0 60 3625 (RgC h0 z)) 38 2388 (z + 38) ((z + 37, .inr (3, [.null, .null, .null, jI 0, jI 0, jI 0])) :: (h0, .inr (6, [.ref z, .ref (z + 29), .null, .null, .null])) :: (wMax cs (z + 29) (z + 30) (z) ++ (wNet cs (z) (z + 1) ++ []))) 33 [some (.ref h0), some (.ref z)] [(.ref (z + 37)), (.ref h0)]
  refine wn_dup X dX6_init_33 rfl ?_
  refine wn_aloadn X dX6_init_34 rfl ?_
  refine wn_callN X K (h0 := z + 37) (As := [(.ref z)]) (st := [(.ref (z + 37)), (.ref h0)]) (c_Max_new l D cs (z + 37) (z + 38) (z) (by omega)) rfl ⟨tn_70, tw_71, tw_3, tw_72⟩ dc_X3_init rfl rfl (List.forall_mem_cons.mpr ⟨by show h0 ≠ z + 37; omega, fun x hx e => by have := (hg2 x hx).2; have : x.1 = z + 37 := e; omega⟩) (Or.inr (by omega)) (fun q hq => Or.inr (by omega)) (Nat.le_of_ble_eq_true rfl) (by decide) dX6_init_35 ?_
  refine wn_swap (wMax cs (z + 37) (z + 38) (z)) ?_
  have hg3 : wIn (wMax cs (z + 37) (z + 38) (z) ++ (wMax cs (z + 29) (z + 30) (z) ++ (wNet cs (z) (z + 1) ++ []))) z (z + 45) := wIn_app (b' := z + 45) hg2 (wIn_Max cs (z + 37) (z)) (by omega) (by omega)
  show Wn pg l ev (rmm 3 60 3625) s0 mi av bl mt cd D (RgC h0 z) s0.heap 2 (MQ bl (va_Qv (fun (_ : Unit) => True) (fun _ t => (∀ x ∈ wFn cs h0 z, va_at D vwCl x t.heap) ∧ t.heap.size = z + 60) (RgC h0 z)) av s0 60 3625 (RgC h0 z)) 45 2630 (z + 45) ((h0, .inr (6, [.ref z, .ref (z + 29), .null, .null, .null])) :: (wMax cs (z + 37) (z + 38) (z) ++ (wMax cs (z + 29) (z + 30) (z) ++ (wNet cs (z) (z + 1) ++ [])))) 38 [some (.ref h0), some (.ref z)] [(.ref (z + 37)), (.ref h0)]
  refine wn_putF X K (C := RX6) (T := TX6) (ty0 := tyX6) (N := 5) (k := 2) hin2 (Or.inl rfl) (fun x hx e => by have := (hg3 x hx).1; have : x.1 = h0 := e; omega) rfl ti_6 tyX6_ok nmX6 (by decide) rfl rfl tw_181 rfl rfl rfl (Nat.le_of_ble_eq_true rfl) dX6_init_38 ?_
  show Wn pg l ev (rmm 3 60 3625) s0 mi av bl mt cd D (RgC h0 z) s0.heap 2 (MQ bl (va_Qv (fun (_ : Unit) => True) (fun _ t => (∀ x ∈ wFn cs h0 z, va_at D vwCl x t.heap) ∧ t.heap.size = z + 60) (RgC h0 z)) av s0 60 3625 (RgC h0 z)) 45 2630 (z + 45) ((h0, .inr (6, [.ref z, .ref (z + 29), .ref (z + 37), .null, .null])) :: (wMax cs (z + 37) (z + 38) (z) ++ (wMax cs (z + 29) (z + 30) (z) ++ (wNet cs (z) (z + 1) ++ [])))) 41 [some (.ref h0), some (.ref z)] []
  refine wn_aloadn X dX6_init_41 rfl ?_
  refine wn_newO X K (C := RX2) (T := TX2) (N := 4) (ci := 2) (fs := [jI 0, .null, .null, .null]) rfl ti_2 tyX2 tyX2_ok tw_145 tw_146 tw_6 (fun j hj => by rcases (show j = 0 ∨ j = 1 ∨ j = 2 ∨ j = 3 by omega) with rfl | rfl | rfl | rfl <;> rfl) ⟨Nat.le_of_ble_eq_true rfl, Nat.le_of_ble_eq_true rfl⟩ dX6_init_42 ?_
  show Wn pg l ev (rmm 3 60 3625) s0 mi av bl mt cd D (RgC h0 z) s0.heap 2 (MQ bl (va_Qv (fun (_ : Unit) => True) (fun _ t => (∀ x ∈ wFn cs h0 z, va_at D vwCl x t.heap) ∧ t.heap.size = z + 60) (RgC h0 z)) av s0 60 3625 (RgC h0 z)) 46 2634 (z + 46) ((z + 45, .inr (2, [jI 0, .null, .null, .null])) :: (h0, .inr (6, [.ref z, .ref (z + 29), .ref (z + 37), .null, .null])) :: (wMax cs (z + 37) (z + 38) (z) ++ (wMax cs (z + 29) (z + 30) (z) ++ (wNet cs (z) (z + 1) ++ [])))) 45 [some (.ref h0), some (.ref z)] [(.ref (z + 45)), (.ref h0)]
  refine wn_dup X dX6_init_45 rfl ?_
  refine wn_callN X K (h0 := z + 45) (As := []) (st := [(.ref (z + 45)), (.ref h0)]) (c_Levels_new l D cs (z + 45) (z + 46) (by omega)) rfl ⟨tn_147, tw_148, tw_6, tw_149⟩ dc_X2_init rfl rfl (List.forall_mem_cons.mpr ⟨by show h0 ≠ z + 45; omega, fun x hx e => by have := (hg3 x hx).2; have : x.1 = z + 45 := e; omega⟩) (Or.inr (by omega)) (fun q hq => Or.inr (by omega)) (Nat.le_of_ble_eq_true rfl) (by decide) dX6_init_46 ?_
  refine wn_swap (wLev cs (z + 45) (z + 46)) ?_
  have hg4 : wIn (wLev cs (z + 45) (z + 46) ++ (wMax cs (z + 37) (z + 38) (z) ++ (wMax cs (z + 29) (z + 30) (z) ++ (wNet cs (z) (z + 1) ++ [])))) z (z + 57) := wIn_app (b' := z + 57) hg3 (wIn_Lev cs (z + 45)) (by omega) (by omega)
  show Wn pg l ev (rmm 3 60 3625) s0 mi av bl mt cd D (RgC h0 z) s0.heap 2 (MQ bl (va_Qv (fun (_ : Unit) => True) (fun _ t => (∀ x ∈ wFn cs h0 z, va_at D vwCl x t.heap) ∧ t.heap.size = z + 60) (RgC h0 z)) av s0 60 3625 (RgC h0 z)) 57 3298 (z + 57) ((h0, .inr (6, [.ref z, .ref (z + 29), .ref (z + 37), .null, .null])) :: (wLev cs (z + 45) (z + 46) ++ (wMax cs (z + 37) (z + 38) (z) ++ (wMax cs (z + 29) (z + 30) (z) ++ (wNet cs (z) (z + 1) ++ []))))) 49 [some (.ref h0), some (.ref z)] [(.ref (z + 45)), (.ref h0)]
  refine wn_putF X K (C := RX6) (T := TX6) (ty0 := tyX6) (N := 5) (k := 3) hin2 (Or.inl rfl) (fun x hx e => by have := (hg4 x hx).1; have : x.1 = h0 := e; omega) rfl ti_6 tyX6_ok nmX6 (by decide) rfl rfl tw_182 rfl rfl rfl (Nat.le_of_ble_eq_true rfl) dX6_init_49 ?_
  show Wn pg l ev (rmm 3 60 3625) s0 mi av bl mt cd D (RgC h0 z) s0.heap 2 (MQ bl (va_Qv (fun (_ : Unit) => True) (fun _ t => (∀ x ∈ wFn cs h0 z, va_at D vwCl x t.heap) ∧ t.heap.size = z + 60) (RgC h0 z)) av s0 60 3625 (RgC h0 z)) 57 3298 (z + 57) ((h0, .inr (6, [.ref z, .ref (z + 29), .ref (z + 37), .ref (z + 45), .null])) :: (wLev cs (z + 45) (z + 46) ++ (wMax cs (z + 37) (z + 38) (z) ++ (wMax cs (z + 29) (z + 30) (z) ++ (wNet cs (z) (z + 1) ++ []))))) 52 [some (.ref h0), some (.ref z)] []
  refine wn_aloadn X dX6_init_52 rfl ?_
  refine wn_newO X K (C := RX0) (T := TX0) (N := 3) (ci := 0) (fs := [jI 0, .null, .null]) rfl ti_0 tyX0 tyX0_ok tw_164 tw_165 tw_7 (fun j hj => by rcases (show j = 0 ∨ j = 1 ∨ j = 2 by omega) with rfl | rfl | rfl <;> rfl) ⟨Nat.le_of_ble_eq_true rfl, Nat.le_of_ble_eq_true rfl⟩ dX6_init_53 ?_
  show Wn pg l ev (rmm 3 60 3625) s0 mi av bl mt cd D (RgC h0 z) s0.heap 2 (MQ bl (va_Qv (fun (_ : Unit) => True) (fun _ t => (∀ x ∈ wFn cs h0 z, va_at D vwCl x t.heap) ∧ t.heap.size = z + 60) (RgC h0 z)) av s0 60 3625 (RgC h0 z)) 58 3301 (z + 58) ((z + 57, .inr (0, [jI 0, .null, .null])) :: (h0, .inr (6, [.ref z, .ref (z + 29), .ref (z + 37), .ref (z + 45), .null])) :: (wLev cs (z + 45) (z + 46) ++ (wMax cs (z + 37) (z + 38) (z) ++ (wMax cs (z + 29) (z + 30) (z) ++ (wNet cs (z) (z + 1) ++ []))))) 56 [some (.ref h0), some (.ref z)] [(.ref (z + 57)), (.ref h0)]
  refine wn_dup X dX6_init_56 rfl ?_
  refine wn_callN X K (h0 := z + 57) (As := []) (st := [(.ref (z + 57)), (.ref h0)]) (c_Cuts_new l D cs (z + 57) (z + 58) (by omega)) rfl ⟨tn_166, tw_167, tw_7, tw_168⟩ dc_X0_init rfl rfl (List.forall_mem_cons.mpr ⟨by show h0 ≠ z + 57; omega, fun x hx e => by have := (hg4 x hx).2; have : x.1 = z + 57 := e; omega⟩) (Or.inr (by omega)) (fun q hq => Or.inr (by omega)) (Nat.le_of_ble_eq_true rfl) (by decide) dX6_init_57 ?_
  refine wn_swap (wCut cs (z + 57) (z + 58)) ?_
  have hg5 : wIn (wCut cs (z + 57) (z + 58) ++ (wLev cs (z + 45) (z + 46) ++ (wMax cs (z + 37) (z + 38) (z) ++ (wMax cs (z + 29) (z + 30) (z) ++ (wNet cs (z) (z + 1) ++ []))))) z (z + 60) := wIn_app (b' := z + 60) hg4 (wIn_Cut cs (z + 57)) (by omega) (by omega)
  show Wn pg l ev (rmm 3 60 3625) s0 mi av bl mt cd D (RgC h0 z) s0.heap 2 (MQ bl (va_Qv (fun (_ : Unit) => True) (fun _ t => (∀ x ∈ wFn cs h0 z, va_at D vwCl x t.heap) ∧ t.heap.size = z + 60) (RgC h0 z)) av s0 60 3625 (RgC h0 z)) 60 3625 (z + 60) ((h0, .inr (6, [.ref z, .ref (z + 29), .ref (z + 37), .ref (z + 45), .null])) :: (wCut cs (z + 57) (z + 58) ++ (wLev cs (z + 45) (z + 46) ++ (wMax cs (z + 37) (z + 38) (z) ++ (wMax cs (z + 29) (z + 30) (z) ++ (wNet cs (z) (z + 1) ++ [])))))) 60 [some (.ref h0), some (.ref z)] [(.ref (z + 57)), (.ref h0)]
  refine wn_putF X K (C := RX6) (T := TX6) (ty0 := tyX6) (N := 5) (k := 4) hin2 (Or.inl rfl) (fun x hx e => by have := (hg5 x hx).1; have : x.1 = h0 := e; omega) rfl ti_6 tyX6_ok nmX6 (by decide) rfl rfl tw_183 rfl rfl rfl (Nat.le_of_ble_eq_true rfl) dX6_init_60 ?_
  show Wn pg l ev (rmm 3 60 3625) s0 mi av bl mt cd D (RgC h0 z) s0.heap 2 (MQ bl (va_Qv (fun (_ : Unit) => True) (fun _ t => (∀ x ∈ wFn cs h0 z, va_at D vwCl x t.heap) ∧ t.heap.size = z + 60) (RgC h0 z)) av s0 60 3625 (RgC h0 z)) 60 3625 (z + 60) ((h0, .inr (6, [.ref z, .ref (z + 29), .ref (z + 37), .ref (z + 45), .ref (z + 57)])) :: (wCut cs (z + 57) (z + 58) ++ (wLev cs (z + 45) (z + 46) ++ (wMax cs (z + 37) (z + 38) (z) ++ (wMax cs (z + 29) (z + 30) (z) ++ (wNet cs (z) (z + 1) ++ [])))))) 63 [some (.ref h0), some (.ref z)] []
  refine wn_ret X hr ⟨rfl, rfl⟩ rfl (fun x hx => ?_) dX6_init_63
  simp only [wFn, List.mem_cons, List.mem_append, List.not_mem_nil, or_false, List.nil_append, List.append_nil] at hx ⊢
  first | exact hx | grind

