/-! THE LAW'S CASES -/
theorem mOk_cong {σ τ : Mem} (e : ∀ k : Nat, τ (4, k) = σ (4, k)) (h : mOk σ) : mOk τ := by
  unfold mOk mNet mEn mEy at h ⊢
  simp only [e]
  exact h
theorem wP_4 {Post : Int → Mem → Prop} {XP : String → Prop} {cd : List (String × Int)} {σ τ : Mem} {z : Int} (h : wPost Post XP cd σ z τ) (hp : ∀ z τ, Post z τ → g45 σ τ) (k : Nat) : τ (4, k) = σ (4, k) := by
  rcases h with ⟨-, w, τ', h, rfl⟩ | ⟨E, -, -, rfl⟩
  · rw [m5_ne (by decide)]
    exact hp _ _ h 4 k (Or.inl rfl)
  · rfl
theorem wP_4d {Post : UInt64 → Mem → Prop} {XP : String → Prop} {cd : List (String × Int)} {σ τ : Mem} {z : Int} (h : wPostD Post XP cd σ z τ) (hp : ∀ z τ, Post z τ → g45 σ τ) (k : Nat) : τ (4, k) = σ (4, k) := by
  rcases h with ⟨-, w, τ', h, rfl⟩ | ⟨E, -, -, rfl⟩
  · rw [m5_ne (by decide)]
    exact hp _ _ h 4 k (Or.inl rfl)
  · rfl
theorem d8_eighth : D8 1 4593671619917905920 := by
  have : FP.Core.val64 4593671619917905920 = .fin false (2 ^ 52) (-55) := by decide +kernel
  unfold D8
  rw [this]
  show FP.Core.signed false (2 ^ 52 * 2 ^ ((-55 : Int) + 3).toNat) = 1 * ((2 ^ (-((-55 : Int) + 3)).toNat : Nat) : Int)
  decide +kernel
theorem fr_8 (x : Int32) : D8 x.toInt (FP.dmul (FP.i2d (iI x.toInt)) 4593671619917905920) := by
  have hr := iI_rg x
  obtain ⟨h1, h2⟩ := hr
  have := d8_mul (d1_i (x := x.toInt) ⟨h1, h2⟩) d8_eighth (by omega)
  rwa [Int.mul_one] at this
theorem fr_pos (x : Int32) (h : 0 ≤ x.toInt) : (FP.dmul (FP.i2d (iI x.toInt)) 4593671619917905920).toNat < 2 ^ 63 := dmul_pos (d8_of (d1_i (iI_rg x))) d8_eighth (i2d_pos ⟨h, (iI_rg x).2⟩) (by decide)

theorem g45_addNode {σ : Mem} : ∀ z τ, PF_addNode σ z τ → g45 σ τ := fun z τ h g k hg => h.2.2.1.1 (g, k) (fun e => by have := congrArg Prod.fst e; simp only at this; omega)
theorem x_addNode {σ : Mem} : ∀ E, XF_addNode σ E → E = ISE := fun E h => by
  unfold XF_addNode at h
  grind
theorem m4_addNode {σ : Mem} : ∀ z τ, PM_addNode σ z τ → g4 σ τ := fun z τ h => by
  rcases h with ⟨-, f, -⟩ | ⟨-, f, -⟩
  · exact fq.g4 f
  · exact f.g4 (by decide)
theorem g45_addArc {σ : Mem} {s t c : Int} : ∀ z τ, PF_addArc σ s t c z τ → g45 σ τ := fun z τ h g k hg => h.2.2.2.1.1 g k (by omega) (by omega) (by omega)
theorem x_addArc {σ : Mem} {s t c : Int} : ∀ E, XF_addArc σ s t c E → E = IOB ∨ E = IAE ∨ E = ISE := fun E h => by
  unfold XF_addArc at h
  grind
theorem m4_addArc {σ : Mem} {s t c : Int} : ∀ z τ, PM_addArc σ s t c z τ → g4 σ τ := fun z τ h => by
  rcases h with ⟨-, f, -⟩ | ⟨-, ⟨-, f, -⟩ | ⟨-, ⟨-, f, -⟩ | ⟨-, f, -⟩⟩⟩
  · exact fq.g4 f
  · exact fq.g4 f
  · exact fq.g4 f
  · exact f.g4 (by decide)
theorem g45_setCapacity {σ : Mem} {a c : Int} : ∀ z τ, PF_setCapacity σ a c z τ → g45 σ τ := fun z τ h g k hg => h.2.1.1 g k (by omega)
theorem x_setCapacity {σ : Mem} {a c : Int} : ∀ E, XF_setCapacity σ a c E → E = IOB ∨ E = IAE := fun E h => by
  unfold XF_setCapacity at h
  grind
theorem m4_setCapacity {σ : Mem} {a c : Int} : ∀ z τ, PM_setCapacity σ a c z τ → g4 σ τ := fun z τ h => by
  rcases h with ⟨-, f, -⟩ | ⟨-, ⟨-, f, -⟩ | ⟨-, f, -⟩⟩
  · exact fq.g4 f
  · exact fq.g4 f
  · exact f.g4 (by decide)
theorem g45_scale {σ : Mem} {v k : Int} : ∀ z τ, PF_scale σ v k z τ → g45 σ τ := fun z τ h g k hg => h.2.1.1 g k (by omega)
theorem x_scale {σ : Mem} {v k : Int} : ∀ E, XF_scale σ v k E → E = IOB ∨ E = IAE := fun E h => by
  unfold XF_scale at h
  grind
theorem m4_scale {σ : Mem} {v k : Int} : ∀ z τ, PM_scale σ v k z τ → g4 σ τ := fun z τ h => by
  rcases h with ⟨-, f, -⟩ | ⟨-, ⟨-, f, -⟩ | ⟨-, f, -⟩⟩
  · exact fq.g4 f
  · exact fq.g4 f
  · exact f.g4 (by decide)
theorem g45_setEnds {σ : Mem} {s t : Int} : ∀ z τ, PF_setEnds σ s t z τ → g45 σ τ := fun z τ h g k hg => h.2.1.1 g k (by omega)
theorem x_setEnds {σ : Mem} {s t : Int} : ∀ E, XF_setEnds σ s t E → E = IOB ∨ E = IAE := fun E h => by
  unfold XF_setEnds at h
  grind
theorem m4_setEnds {σ : Mem} {s t : Int} : ∀ z τ, PM_setEnds σ s t z τ → g4 σ τ := fun z τ h => by
  rcases h with ⟨-, f, -⟩ | ⟨-, ⟨-, f, -⟩ | ⟨-, f, -⟩⟩
  · exact fq.g4 f
  · exact fq.g4 f
  · exact f.g4 (by decide)
theorem g45_capacity {σ : Mem} {a : Int} : ∀ z τ, PF_capacity σ a z τ → g45 σ τ := fun z τ h => by rw [h.1]; exact g45.rf
theorem x_capacity {σ : Mem} {a : Int} : ∀ E, XF_capacity σ a E → E = IOB := fun E h => by
  unfold XF_capacity at h
  grind
theorem m4_capacity {σ : Mem} {a : Int} : ∀ z τ, PM_capacity σ a z τ → g4 σ τ := fun z τ h => fq.g4 h.1
theorem g45_maximum {σ : Mem} : ∀ z τ, PF_maximum σ z τ → g45 σ τ := fun z τ h g k hg => h.2.1.1 g k (by omega)
theorem x_maximum {σ : Mem} : ∀ E, XF_maximum σ E → E = ISE := fun E h => by
  unfold XF_maximum at h
  grind
theorem m4_maximum {σ : Mem} : ∀ z τ, PM_maximum σ z τ → g4 σ τ := fun z τ h => fq.g4 h.1
theorem g45_maximumWith {σ : Mem} {a c : Int} : ∀ z τ, PF_maximumWith σ a c z τ → g45 σ τ := fun z τ h g k hg => h.2.1.1 g k (by omega)
theorem x_maximumWith {σ : Mem} {a c : Int} : ∀ E, XF_maximumWith σ a c E → E = ISE ∨ E = IOB ∨ E = IAE := fun E h => by
  unfold XF_maximumWith at h
  grind
theorem m4_maximumWith {σ : Mem} {a c : Int} : ∀ z τ, PM_maximumWith σ a c z τ → g4 σ τ := fun z τ h => fq.g4 h.1
theorem g45_maximumWithout {σ : Mem} {v : Int} : ∀ z τ, PF_maximumWithout σ v z τ → g45 σ τ := fun z τ h g k hg => h.2.1.1 g k (by omega)
theorem x_maximumWithout {σ : Mem} {v : Int} : ∀ E, XF_maximumWithout σ v E → E = ISE ∨ E = IOB := fun E h => by
  unfold XF_maximumWithout at h
  grind
theorem m4_maximumWithout {σ : Mem} {v : Int} : ∀ z τ, PM_maximumWithout σ v z τ → g4 σ τ := fun z τ h => fq.g4 h.1
theorem g45_maximumBetween {σ : Mem} {s t : Int} : ∀ z τ, PF_maximumBetween σ s t z τ → g45 σ τ := fun z τ h g k hg => h.2.1.1 g k (by omega)
theorem x_maximumBetween {σ : Mem} {s t : Int} : ∀ E, XF_maximumBetween σ s t E → E = IOB ∨ E = IAE := fun E h => by
  unfold XF_maximumBetween at h
  grind
theorem m4_maximumBetween {σ : Mem} {s t : Int} : ∀ z τ, PM_maximumBetween σ s t z τ → g4 σ τ := fun z τ h => fq.g4 h.1
theorem g45_utilization {σ : Mem} : ∀ z τ, PF_utilization σ z τ → g45 σ τ := fun z τ h g k hg => h.2.1.1 g k (by omega)
theorem x_utilization {σ : Mem} : ∀ E, XF_utilization σ E → E = ISE := fun E h => by
  unfold XF_utilization at h
  grind
theorem m4_utilization {σ : Mem} : ∀ z τ, PM_utilization σ z τ → g4 σ τ := fun z τ h => fq.g4 h.1
theorem g45_leastFlow {σ : Mem} {a : Int} : ∀ z τ, PF_leastFlow σ a z τ → g45 σ τ := fun z τ h g k hg => h.2.1.1 g k (by omega)
theorem x_leastFlow {σ : Mem} {a : Int} : ∀ E, XF_leastFlow σ a E → E = ISE ∨ E = IOB := fun E h => by
  unfold XF_leastFlow at h
  grind
theorem m4_leastFlow {σ : Mem} {a : Int} : ∀ z τ, PM_leastFlow σ a z τ → g4 σ τ := fun z τ h => fq.g4 h.1
theorem g45_greatestFlow {σ : Mem} {a : Int} : ∀ z τ, PF_greatestFlow σ a z τ → g45 σ τ := fun z τ h g k hg => h.2.1.1 g k (by omega)
theorem x_greatestFlow {σ : Mem} {a : Int} : ∀ E, XF_greatestFlow σ a E → E = ISE ∨ E = IOB := fun E h => by
  unfold XF_greatestFlow at h
  grind
theorem m4_greatestFlow {σ : Mem} {a : Int} : ∀ z τ, PM_greatestFlow σ a z τ → g4 σ τ := fun z τ h => fq.g4 h.1
theorem g45_cutCapacity {σ : Mem} {m : Int} : ∀ z τ, PF_cutCapacity σ m z τ → g45 σ τ := fun z τ h => by rw [h.1]; exact g45.rf
theorem x_cutCapacity {σ : Mem} {m : Int} : ∀ E, XF_cutCapacity σ m E → E = ISE ∨ E = IAE := fun E h => by
  unfold XF_cutCapacity at h
  grind
theorem m4_cutCapacity {σ : Mem} {m : Int} : ∀ z τ, PM_cutCapacity σ m z τ → g4 σ τ := fun z τ h => fq.g4 h.1
theorem g45_smallestCut {σ : Mem} : ∀ z τ, PF_smallestCut σ z τ → g45 σ τ := fun z τ h g k hg => h.2.1.1 g k (by omega)
theorem x_smallestCut {σ : Mem} : ∀ E, XF_smallestCut σ E → E = ISE := fun E h => by
  unfold XF_smallestCut at h
  grind
theorem m4_smallestCut {σ : Mem} : ∀ z τ, PM_smallestCut σ z τ → g4 σ τ := fun z τ h => fq.g4 h.1
theorem g45_greatestCut {σ : Mem} : ∀ z τ, PF_greatestCut σ z τ → g45 σ τ := fun z τ h g k hg => h.2.1.1 g k (by omega)
theorem x_greatestCut {σ : Mem} : ∀ E, XF_greatestCut σ E → E = ISE := fun E h => by
  unfold XF_greatestCut at h
  grind
theorem m4_greatestCut {σ : Mem} : ∀ z τ, PM_greatestCut σ z τ → g4 σ τ := fun z τ h => fq.g4 h.1
theorem g45_findCuts {σ : Mem} : ∀ z τ, PF_findCuts σ z τ → g45 σ τ := fun z τ h g k hg => h.1.2.1 g k (by omega) (by omega)
theorem x_findCuts {σ : Mem} : ∀ E, XF_findCuts σ E → E = ISE := fun E h => by
  unfold XF_findCuts at h
  grind
theorem m4_findCuts {σ : Mem} : ∀ z τ, PM_findCuts σ z τ → g4 σ τ := fun z τ h => by
  rcases h with ⟨-, f, -⟩ | ⟨-, f, -⟩
  · exact fq.g4 f
  · exact (show frL [((4, 1) : Ix), (4, 14), (4, 15), (4, 16), (4, 17), (4, 18), (4, 19), (4, 20)] _ _ from f).g4 (by decide)
theorem g45_cut {σ : Mem} {i : Int} : ∀ z τ, PF_cut σ i z τ → g45 σ τ := fun z τ h => by rw [h.1]; exact g45.rf
theorem x_cut {σ : Mem} {i : Int} : ∀ E, XF_cut σ i E → E = IOB := fun E h => by
  unfold XF_cut at h
  grind
theorem m4_cut {σ : Mem} {i : Int} : ∀ z τ, PM_cut σ i z τ → g4 σ τ := fun z τ h => fq.g4 h.1
theorem g45_isBottleneck {σ : Mem} {a : Int} : ∀ z τ, PF_isBottleneck σ a z τ → g45 σ τ := fun z τ h g k hg => h.2.1.1 g k (by omega)
theorem x_isBottleneck {σ : Mem} {a : Int} : ∀ E, XF_isBottleneck σ a E → E = ISE ∨ E = IOB := fun E h => by
  unfold XF_isBottleneck at h
  grind
theorem m4_isBottleneck {σ : Mem} {a : Int} : ∀ z τ, PM_isBottleneck σ a z τ → g4 σ τ := fun z τ h => fq.g4 h.1
theorem g45_isLimiting {σ : Mem} {a : Int} : ∀ z τ, PF_isLimiting σ a z τ → g45 σ τ := fun z τ h g k hg => h.2.1.1 g k (by omega)
theorem x_isLimiting {σ : Mem} {a : Int} : ∀ E, XF_isLimiting σ a E → E = ISE ∨ E = IOB := fun E h => by
  unfold XF_isLimiting at h
  grind
theorem m4_isLimiting {σ : Mem} {a : Int} : ∀ z τ, PM_isLimiting σ a z τ → g4 σ τ := fun z τ h => fq.g4 h.1
theorem g45_headroom {σ : Mem} {a : Int} : ∀ z τ, PF_headroom σ a z τ → g45 σ τ := fun z τ h g k hg => h.2.1.1 g k (by omega)
theorem x_headroom {σ : Mem} {a : Int} : ∀ E, XF_headroom σ a E → E = ISE ∨ E = IOB := fun E h => by
  unfold XF_headroom at h
  grind
theorem m4_headroom {σ : Mem} {a : Int} : ∀ z τ, PM_headroom σ a z τ → g4 σ τ := fun z τ h => fq.g4 h.1
theorem g45_push {σ : Mem} : ∀ z τ, PF_push σ z τ → g45 σ τ := fun z τ h g k hg => h.2.2.1.1 (g, k) (fun e => by simp only [List.mem_cons, List.not_mem_nil, or_false, Prod.mk.injEq] at e; omega)
theorem x_push {σ : Mem} : ∀ E, XF_push σ E → E = ISE := fun E h => by
  unfold XF_push at h
  grind
theorem m4_push {σ : Mem} : ∀ z τ, PM_push σ z τ → g4 σ τ := fun z τ h => by
  rcases h with ⟨-, f, -⟩ | ⟨-, ⟨ω, p1, rfl⟩, -⟩
  · exact fq.g4 f
  · exact fun g k hg => by
      rw [mset_id (fun e => hg (congrArg Prod.fst e))]
      exact p1.1.g4 (by decide) g k hg
theorem g45_pop {σ : Mem} : ∀ z τ, PF_pop σ z τ → g45 σ τ := fun z τ h g k hg => h.2.2.1.1 g k (by omega) (fun e => by have := congrArg Prod.fst e; simp only at this; omega)
theorem x_pop {σ : Mem} : ∀ E, XF_pop σ E → E = ISE := fun E h => by
  unfold XF_pop at h
  grind
theorem m4_pop {σ : Mem} : ∀ z τ, PM_pop σ z τ → g4 σ τ := fun z τ h => by
  rcases h with ⟨-, f, -⟩ | ⟨-, p1, -⟩
  · exact fq.g4 f
  · exact p1.1.g4 (by decide)
theorem b01_isBottleneck {σ : Mem} {a : Int} : ∀ z τ, PF_isBottleneck σ a z τ → z = 0 ∨ z = 1 := fun z τ h => by
  unfold PF_isBottleneck at h
  grind
theorem b01_isLimiting {σ : Mem} {a : Int} : ∀ z τ, PF_isLimiting σ a z τ → z = 0 ∨ z = 1 := fun z τ h => by
  unfold PF_isLimiting at h
  grind
theorem b01_setEnds {σ : Mem} {s t : Int} : ∀ z τ, PF_setEnds σ s t z τ → z = 0 ∨ z = 1 := fun z τ h => by
  unfold PF_setEnds at h
  grind
section LAW
variable {p : Program} {l : Launch} {e : Env} {s : State} {m : MethodId} {args : Array Value} {below : List Frame} {meth : Method} {c : Code} {D : va_G} {cs : Nat → ClassId} {ad : Ix → Nat} {A : Nat → Prop} {Q : State → Prop} {b L k n : Nat} {xs : Nat → Int32} {σ : Mem} {i : Int}
/-- what holds all the law long -/
def LAt (l : Launch) (p : Program) (s : State) (m : MethodId) (args : Array Value) (meth : Method) (c : Code) (D : va_G) (cs : Nat → ClassId) (ad : Ix → Nat) (A : Nat → Prop) (b L : Nat) (xs : Nat → Int32) : Prop :=
  Cx p s m args meth c cL_law 9 "FlowNetworkLaw" ∧ Kx D cs idsA ad A s ∧ Zx A s ∧ (∀ q, s.heap.size ≤ q → A q) ∧ va_X b L xs s s.heap ∧ b < s.heap.size ∧ ¬ A b ∧ L ≤ 2048 ∧ l.stackTraces = false
abbrev loL (ad : Ix → Nat) (b : Nat) (i : Int) (x y : Option Value) : List (Option Value) := [some (.ref b), some (.ref (ad (3, 7))), some (.ref (ad (4, 0))), some (.ref (ad (5, 0))), some (.ref (ad (5, 1))), some (jI i), x, y, none]
abbrev LW (p : Program) (l : Launch) (e : Env) (s : State) (m : MethodId) (args : Array Value) (below : List Frame) (meth : Method) (c : Code) (D : va_G) (cs : Nat → ClassId) (ad : Ix → Nat) (A : Nat → Prop) (Q : State → Prop) (k n : Nat) (σ : Mem) (pc : Nat) (lo : List (Option Value)) (st : List Value) : Prop := Wx p l e room_1 s m args below meth c D cs idsA ad A s.heap 9 Q k n σ pc lo st

theorem dc_LM_addNode : dcl yX7_addNode 0 := ⟨by decide, by decide, by decide +kernel⟩
theorem dc_LM_addArc : dcl yX7_addArc 3 := ⟨by decide, by decide, by decide +kernel⟩
theorem dc_LM_setCapacity : dcl yX7_setCapacity 2 := ⟨by decide, by decide, by decide +kernel⟩
theorem dc_LM_scale : dcl yX7_scale 2 := ⟨by decide, by decide, by decide +kernel⟩
theorem dc_LM_setEnds : dcl yX7_setEnds 2 := ⟨by decide, by decide, by decide +kernel⟩
theorem dc_LF_nodeCount : dcl yX6_nodeCount 0 := ⟨by decide, by decide, by decide +kernel⟩
theorem dc_LM_nodeCount : dcl yX7_nodeCount 0 := ⟨by decide, by decide, by decide +kernel⟩
theorem dc_LF_arcCount : dcl yX6_arcCount 0 := ⟨by decide, by decide, by decide +kernel⟩
theorem dc_LM_arcCount : dcl yX7_arcCount 0 := ⟨by decide, by decide, by decide +kernel⟩
theorem dc_LM_capacity : dcl yX7_capacity 1 := ⟨by decide, by decide, by decide +kernel⟩
theorem dc_LM_maximum : dcl yX7_maximum 0 := ⟨by decide, by decide, by decide +kernel⟩
theorem dc_LM_maximumWith : dcl yX7_maximumWith 2 := ⟨by decide, by decide, by decide +kernel⟩
theorem dc_LM_maximumWithout : dcl yX7_maximumWithout 1 := ⟨by decide, by decide, by decide +kernel⟩
theorem dc_LM_maximumBetween : dcl yX7_maximumBetween 2 := ⟨by decide, by decide, by decide +kernel⟩
theorem dc_LM_utilization : dcl yX7_utilization 0 := ⟨by decide, by decide, by decide +kernel⟩
theorem dc_LM_leastFlow : dcl yX7_leastFlow 1 := ⟨by decide, by decide, by decide +kernel⟩
theorem dc_LM_greatestFlow : dcl yX7_greatestFlow 1 := ⟨by decide, by decide, by decide +kernel⟩
theorem dc_LM_cutCapacity : dcl yX7_cutCapacity 1 := ⟨by decide, by decide, by decide +kernel⟩
theorem dc_LM_smallestCut : dcl yX7_smallestCut 0 := ⟨by decide, by decide, by decide +kernel⟩
theorem dc_LM_greatestCut : dcl yX7_greatestCut 0 := ⟨by decide, by decide, by decide +kernel⟩
theorem dc_LM_findCuts : dcl yX7_findCuts 0 := ⟨by decide, by decide, by decide +kernel⟩
theorem dc_LM_cut : dcl yX7_cut 1 := ⟨by decide, by decide, by decide +kernel⟩
theorem dc_LM_isBottleneck : dcl yX7_isBottleneck 1 := ⟨by decide, by decide, by decide +kernel⟩
theorem dc_LM_isLimiting : dcl yX7_isLimiting 1 := ⟨by decide, by decide, by decide +kernel⟩
theorem dc_LM_headroom : dcl yX7_headroom 1 := ⟨by decide, by decide, by decide +kernel⟩
theorem dc_LM_push : dcl yX7_push 0 := ⟨by decide, by decide, by decide +kernel⟩
theorem dc_LM_pop : dcl yX7_pop 0 := ⟨by decide, by decide, by decide +kernel⟩
theorem dc_LF_digest : dcl yX6_digest 0 := ⟨by decide, by decide, by decide +kernel⟩
theorem dc_LM_digest : dcl yX7_digest 0 := ⟨by decide, by decide, by decide +kernel⟩
theorem dc_LM_thrown : dcl yX7_thrown 0 := ⟨by decide, by decide, by decide +kernel⟩
theorem b2_isBottleneck {σ τ υ : Mem} {e b : Int} {a : Int} (S : SIM σ) (p : wPost (PF_isBottleneck σ a) (XF_isBottleneck σ a) [(ISE, 1), (IOB, 2)] σ e τ) (q : PM_isBottleneck τ a b υ) (h : e = 0) : b = 0 ∨ b = 1 := by
  have hs := (st_isBottleneck S p q).2.1
  rw [h] at hs
  unfold PM_isBottleneck at q
  grind
theorem b2_isLimiting {σ τ υ : Mem} {e b : Int} {a : Int} (S : SIM σ) (p : wPost (PF_isLimiting σ a) (XF_isLimiting σ a) [(ISE, 1), (IOB, 2)] σ e τ) (q : PM_isLimiting τ a b υ) (h : e = 0) : b = 0 ∨ b = 1 := by
  have hs := (st_isLimiting S p q).2.1
  rw [h] at hs
  unfold PM_isLimiting liM at q
  grind
theorem b2_setEnds {σ τ υ : Mem} {e b : Int} {s t : Int} (S : SIM σ) (p : wPost (PF_setEnds σ s t) (XF_setEnds σ s t) [(IOB, 1), (IAE, 2)] σ e τ) (q : PM_setEnds τ s t b υ) (h : e = 0) : b = 0 ∨ b = 1 := by
  have hs := (st_setEnds S p q).2.1
  rw [h] at hs
  unfold PM_setEnds at q
  grind

set_option maxHeartbeats 4000000 in
set_option maxRecDepth 100000 in
theorem law_addNode (Z : LAt l p s m args meth c D cs ad A b L xs) (S : SIM σ) (hi : 0 ≤ i ∧ i + 4 ≤ L) (hk : k + 8 ≤ 601024 ∧ n + 48 ≤ 7293034) (kk : ∀ υ : Mem, SIM υ → LW p l e s m args below meth c D cs ad A Q (k + 8) (n + 48) υ 1532 (loL ad b i none none) []) : LW p l e s m args below meth c D cs ad A Q k n σ 164 (loL ad b i none none) [] := by
  obtain ⟨X, K, hZ, hA, hX, hbl, hbA, hL, hl⟩ := Z
  have hap := K.2.1
  refine zr_aloadn X dL_law_164 rfl ?_
  refine zr_aloadn X dL_law_165 rfl ?_
  refine zr_lawS X K hZ hA (As := [(.ref (ad (3, 7))), (.ref (ad (5, 0)))]) (st := []) (w_addNode l D cs ad hap (σ := σ) (Post := PF_addNode σ) (XP := XF_addNode σ) (fun sz' => c_X6_addNode l D cs ad (ap_F hap) hl S.1 sz') g45_addNode x_addNode) tw_311 tw_312 tw_0 tw_313 dc_L_addNode rfl rfl (Nat.le_of_ble_eq_true rfl) ⟨⟨Nat.le_of_ble_eq_true rfl, Nat.le_of_ble_eq_true rfl⟩, hk.1, hk.2⟩ dL_law_166 (fun ez τ hp => ?_)
  have hM := mOk_cong (wP_4 hp g45_addNode) S.ok
  refine zr_istore X dL_law_169 (by decide) rfl ?_
  refine zr_aloadn X dL_law_171 rfl ?_
  refine zr_mcallI X K (As := []) (st := []) (Post := PM_addNode τ) (rm := rmm 1 0 0) (c_X7_addNode l D cs ad (ap_M hap) hM) ⟨tw_765, tw_766, tw_767, tw_8, tw_768⟩ dc_LM_addNode rfl rfl rfl (Nat.le_of_ble_eq_true rfl) ⟨rfl, rfl⟩ ⟨⟨Nat.le_of_ble_eq_true rfl, Nat.le_of_ble_eq_true rfl⟩, hk.1, hk.2⟩ dL_law_172 m4_addNode (fun bz υ hq => ?_)
  obtain ⟨hS', h1, h2, h3⟩ := st_addNode S hp hq
  refine zr_istore X dL_law_175 (by decide) rfl ?_
  refine zr_aloadn X dL_law_177 rfl ?_
  refine zr_mcallI X K (As := []) (st := []) (rm := rmm 0 0 0) (c_X7_thrown l D cs ad (ap_M hap)) ⟨tw_761, tw_762, tw_763, tw_8, tw_764⟩ dc_LM_thrown rfl rfl rfl (Nat.le_of_ble_eq_true rfl) ⟨rfl, rfl⟩ ⟨⟨Nat.le_of_ble_eq_true rfl, Nat.le_of_ble_eq_true rfl⟩, hk.1, hk.2⟩ dL_law_178 (fun z τ h => by rw [h.1]; exact fun _ _ _ => rfl) (fun z_ τ_ hz_ => ?_)
  obtain ⟨e_, hz_⟩ := hz_
  subst e_
  subst z_
  rw [h1]
  refine zr_iload X dL_law_181 rfl ?_
  refine zr_icmp_eq X 188 dL_law_183 (by decide) ⟨by omega, by omega⟩ ⟨by omega, by omega⟩ (fun _ => ?_) (fun f_ => absurd rfl f_)
  refine zr_iload X dL_law_188 rfl ?_
  refine zr_if_ne X 205 dL_law_190 (by decide) ⟨by omega, by omega⟩ (fun _ => ?_) (fun f_ => ?_)
  · refine zr_goto X 1532 dL_law_205 (by decide) ?_
    exact Wx.weak (lo' := loL ad b i none none) ⟨rfl, rfl, rfl, rfl, rfl, rfl, trivial⟩ (kk _ hS')
  · have h2 := h2 f_
    refine zr_aloadn X dL_law_193 rfl ?_
    refine zr_iconst X dL_law_194 ?_
    refine zr_laldw X K o50 dL_law_195 ?_
    rw [h2]
    refine zr_iload X dL_law_196 rfl ?_
    refine zr_i2lw X dL_law_198 ?_
    refine zr_lcmpw (z := 0) X dL_law_199 (lcmp_0 rfl) ?_
    refine zr_if_eq X 205 dL_law_200 (by decide) rg0 (fun _ => ?_) (fun f_ => absurd rfl f_)
    refine zr_goto X 1532 dL_law_205 (by decide) ?_
    exact Wx.weak (lo' := loL ad b i none none) ⟨rfl, rfl, rfl, rfl, rfl, rfl, trivial⟩ (kk _ hS')

set_option maxHeartbeats 4000000 in
set_option maxRecDepth 100000 in
theorem law_addArc (Z : LAt l p s m args meth c D cs ad A b L xs) (S : SIM σ) (hi : 0 ≤ i ∧ i + 4 ≤ L) (hk : k + 8 ≤ 601024 ∧ n + 48 ≤ 7293034) (kk : ∀ υ : Mem, SIM υ → LW p l e s m args below meth c D cs ad A Q (k + 8) (n + 48) υ 1532 (loL ad b i none none) []) : LW p l e s m args below meth c D cs ad A Q k n σ 208 (loL ad b i none none) [] := by
  obtain ⟨X, K, hZ, hA, hX, hbl, hbA, hL, hl⟩ := Z
  have hap := K.2.1
  refine zr_aloadn X dL_law_208 rfl ?_
  refine zr_aloadn X dL_law_209 rfl ?_
  refine zr_iload X dL_law_210 rfl ?_
  refine zr_iconst X dL_law_212 ?_
  refine zr_iadd X dL_law_213 ?_
  refine zr_sld X hX hbl hbA ⟨by omega, by omega⟩ (by omega) dL_law_214 ?_
  refine zr_aloadn X dL_law_215 rfl ?_
  refine zr_iload X dL_law_216 rfl ?_
  refine zr_iconst X dL_law_218 ?_
  refine zr_iadd X dL_law_219 ?_
  refine zr_sld X hX hbl hbA ⟨by omega, by omega⟩ (by omega) dL_law_220 ?_
  refine zr_aloadn X dL_law_221 rfl ?_
  refine zr_iload X dL_law_222 rfl ?_
  refine zr_iconst X dL_law_224 ?_
  refine zr_iadd X dL_law_225 ?_
  refine zr_sld X hX hbl hbA ⟨by omega, by omega⟩ (by omega) dL_law_226 ?_
  refine zr_aloadn X dL_law_227 rfl ?_
  refine zr_lawS X K hZ hA (As := [(.ref (ad (3, 7))), (jI ((xs (i + 1).toNat).toInt)), (jI ((xs (i + 2).toNat).toInt)), (jI ((xs (i + 3).toNat).toInt)), (.ref (ad (5, 0)))]) (st := []) (w_addArc l D cs ad hap (σ := σ) (Post := PF_addArc σ ((xs (i + 1).toNat).toInt) ((xs (i + 2).toNat).toInt) ((xs (i + 3).toNat).toInt)) (XP := XF_addArc σ ((xs (i + 1).toNat).toInt) ((xs (i + 2).toNat).toInt) ((xs (i + 3).toNat).toInt)) (fun sz' => c_X6_addArc l D cs ad (ap_F hap) hl S.1 (iI_rg _) (iI_rg _) (iI_rg _) sz') g45_addArc x_addArc) tw_391 tw_392 tw_0 tw_393 dc_L_addArc rfl rfl (Nat.le_of_ble_eq_true rfl) ⟨⟨Nat.le_of_ble_eq_true rfl, Nat.le_of_ble_eq_true rfl⟩, hk.1, hk.2⟩ dL_law_228 (fun ez τ hp => ?_)
  have hM := mOk_cong (wP_4 hp g45_addArc) S.ok
  refine zr_istore X dL_law_231 (by decide) rfl ?_
  refine zr_aloadn X dL_law_233 rfl ?_
  refine zr_aloadn X dL_law_234 rfl ?_
  refine zr_iload X dL_law_235 rfl ?_
  refine zr_iconst X dL_law_237 ?_
  refine zr_iadd X dL_law_238 ?_
  refine zr_sld X hX hbl hbA ⟨by omega, by omega⟩ (by omega) dL_law_239 ?_
  refine zr_aloadn X dL_law_240 rfl ?_
  refine zr_iload X dL_law_241 rfl ?_
  refine zr_iconst X dL_law_243 ?_
  refine zr_iadd X dL_law_244 ?_
  refine zr_sld X hX hbl hbA ⟨by omega, by omega⟩ (by omega) dL_law_245 ?_
  refine zr_aloadn X dL_law_246 rfl ?_
  refine zr_iload X dL_law_247 rfl ?_
  refine zr_iconst X dL_law_249 ?_
  refine zr_iadd X dL_law_250 ?_
  refine zr_sld X hX hbl hbA ⟨by omega, by omega⟩ (by omega) dL_law_251 ?_
  refine zr_mcallI X K (As := [(jI ((xs (i + 1).toNat).toInt)), (jI ((xs (i + 2).toNat).toInt)), (jI ((xs (i + 3).toNat).toInt))]) (st := []) (Post := PM_addArc τ ((xs (i + 1).toNat).toInt) ((xs (i + 2).toNat).toInt) ((xs (i + 3).toNat).toInt)) (rm := rmm 1 0 0) (c_X7_addArc l D cs ad (ap_M hap) hM (iI_rg _) (iI_rg _) (iI_rg _)) ⟨tw_773, tw_774, tw_775, tw_8, tw_776⟩ dc_LM_addArc rfl rfl rfl (Nat.le_of_ble_eq_true rfl) ⟨rfl, rfl⟩ ⟨⟨Nat.le_of_ble_eq_true rfl, Nat.le_of_ble_eq_true rfl⟩, hk.1, hk.2⟩ dL_law_252 m4_addArc (fun bz υ hq => ?_)
  obtain ⟨hS', h1, h2, h3⟩ := st_addArc S hp hq
  refine zr_istore X dL_law_255 (by decide) rfl ?_
  refine zr_aloadn X dL_law_257 rfl ?_
  refine zr_mcallI X K (As := []) (st := []) (rm := rmm 0 0 0) (c_X7_thrown l D cs ad (ap_M hap)) ⟨tw_761, tw_762, tw_763, tw_8, tw_764⟩ dc_LM_thrown rfl rfl rfl (Nat.le_of_ble_eq_true rfl) ⟨rfl, rfl⟩ ⟨⟨Nat.le_of_ble_eq_true rfl, Nat.le_of_ble_eq_true rfl⟩, hk.1, hk.2⟩ dL_law_258 (fun z τ h => by rw [h.1]; exact fun _ _ _ => rfl) (fun z_ τ_ hz_ => ?_)
  obtain ⟨e_, hz_⟩ := hz_
  subst e_
  subst z_
  rw [h1]
  refine zr_iload X dL_law_261 rfl ?_
  refine zr_icmp_eq X 268 dL_law_263 (by decide) ⟨by omega, by omega⟩ ⟨by omega, by omega⟩ (fun _ => ?_) (fun f_ => absurd rfl f_)
  refine zr_iload X dL_law_268 rfl ?_
  refine zr_if_ne X 285 dL_law_270 (by decide) ⟨by omega, by omega⟩ (fun _ => ?_) (fun f_ => ?_)
  · refine zr_goto X 1532 dL_law_285 (by decide) ?_
    exact Wx.weak (lo' := loL ad b i none none) ⟨rfl, rfl, rfl, rfl, rfl, rfl, trivial⟩ (kk _ hS')
  · have h2 := h2 f_
    refine zr_aloadn X dL_law_273 rfl ?_
    refine zr_iconst X dL_law_274 ?_
    refine zr_laldw X K o50 dL_law_275 ?_
    rw [h2]
    refine zr_iload X dL_law_276 rfl ?_
    refine zr_i2lw X dL_law_278 ?_
    refine zr_lcmpw (z := 0) X dL_law_279 (lcmp_0 rfl) ?_
    refine zr_if_eq X 285 dL_law_280 (by decide) rg0 (fun _ => ?_) (fun f_ => absurd rfl f_)
    refine zr_goto X 1532 dL_law_285 (by decide) ?_
    exact Wx.weak (lo' := loL ad b i none none) ⟨rfl, rfl, rfl, rfl, rfl, rfl, trivial⟩ (kk _ hS')

set_option maxHeartbeats 4000000 in
set_option maxRecDepth 100000 in
theorem law_setCapacity (Z : LAt l p s m args meth c D cs ad A b L xs) (S : SIM σ) (hi : 0 ≤ i ∧ i + 4 ≤ L) (hk : k + 8 ≤ 601024 ∧ n + 48 ≤ 7293034) (kk : ∀ υ : Mem, SIM υ → LW p l e s m args below meth c D cs ad A Q (k + 8) (n + 48) υ 1532 (loL ad b i none none) []) : LW p l e s m args below meth c D cs ad A Q k n σ 288 (loL ad b i none none) [] := by
  obtain ⟨X, K, hZ, hA, hX, hbl, hbA, hL, hl⟩ := Z
  have hap := K.2.1
  refine zr_aloadn X dL_law_288 rfl ?_
  refine zr_aloadn X dL_law_289 rfl ?_
  refine zr_iload X dL_law_290 rfl ?_
  refine zr_iconst X dL_law_292 ?_
  refine zr_iadd X dL_law_293 ?_
  refine zr_sld X hX hbl hbA ⟨by omega, by omega⟩ (by omega) dL_law_294 ?_
  refine zr_aloadn X dL_law_295 rfl ?_
  refine zr_iload X dL_law_296 rfl ?_
  refine zr_iconst X dL_law_298 ?_
  refine zr_iadd X dL_law_299 ?_
  refine zr_sld X hX hbl hbA ⟨by omega, by omega⟩ (by omega) dL_law_300 ?_
  refine zr_aloadn X dL_law_301 rfl ?_
  refine zr_lawS X K hZ hA (As := [(.ref (ad (3, 7))), (jI ((xs (i + 1).toNat).toInt)), (jI ((xs (i + 2).toNat).toInt)), (.ref (ad (5, 0)))]) (st := []) (w_setCapacity l D cs ad hap (σ := σ) (Post := PF_setCapacity σ ((xs (i + 1).toNat).toInt) ((xs (i + 2).toNat).toInt)) (XP := XF_setCapacity σ ((xs (i + 1).toNat).toInt) ((xs (i + 2).toNat).toInt)) (fun sz' => c_X6_setCapacity l D cs ad (ap_F hap) hl S.1 (iI_rg _) (iI_rg _) sz') g45_setCapacity x_setCapacity) tw_461 tw_462 tw_0 tw_463 dc_L_setCapacity rfl rfl (Nat.le_of_ble_eq_true rfl) ⟨⟨Nat.le_of_ble_eq_true rfl, Nat.le_of_ble_eq_true rfl⟩, hk.1, hk.2⟩ dL_law_302 (fun ez τ hp => ?_)
  have hM := mOk_cong (wP_4 hp g45_setCapacity) S.ok
  refine zr_istore X dL_law_305 (by decide) rfl ?_
  refine zr_aloadn X dL_law_307 rfl ?_
  refine zr_aloadn X dL_law_308 rfl ?_
  refine zr_iload X dL_law_309 rfl ?_
  refine zr_iconst X dL_law_311 ?_
  refine zr_iadd X dL_law_312 ?_
  refine zr_sld X hX hbl hbA ⟨by omega, by omega⟩ (by omega) dL_law_313 ?_
  refine zr_aloadn X dL_law_314 rfl ?_
  refine zr_iload X dL_law_315 rfl ?_
  refine zr_iconst X dL_law_317 ?_
  refine zr_iadd X dL_law_318 ?_
  refine zr_sld X hX hbl hbA ⟨by omega, by omega⟩ (by omega) dL_law_319 ?_
  refine zr_mcallI X K (As := [(jI ((xs (i + 1).toNat).toInt)), (jI ((xs (i + 2).toNat).toInt))]) (st := []) (Post := PM_setCapacity τ ((xs (i + 1).toNat).toInt) ((xs (i + 2).toNat).toInt)) (rm := rmm 1 0 0) (c_X7_setCapacity l D cs ad (ap_M hap) hM (iI_rg _) (iI_rg _)) ⟨tw_785, tw_786, tw_787, tw_8, tw_788⟩ dc_LM_setCapacity rfl rfl rfl (Nat.le_of_ble_eq_true rfl) ⟨rfl, rfl⟩ ⟨⟨Nat.le_of_ble_eq_true rfl, Nat.le_of_ble_eq_true rfl⟩, hk.1, hk.2⟩ dL_law_320 m4_setCapacity (fun bz υ hq => ?_)
  obtain ⟨hS', h1, h2, h3⟩ := st_setCapacity S hp hq
  refine zr_istore X dL_law_323 (by decide) rfl ?_
  refine zr_aloadn X dL_law_325 rfl ?_
  refine zr_mcallI X K (As := []) (st := []) (rm := rmm 0 0 0) (c_X7_thrown l D cs ad (ap_M hap)) ⟨tw_761, tw_762, tw_763, tw_8, tw_764⟩ dc_LM_thrown rfl rfl rfl (Nat.le_of_ble_eq_true rfl) ⟨rfl, rfl⟩ ⟨⟨Nat.le_of_ble_eq_true rfl, Nat.le_of_ble_eq_true rfl⟩, hk.1, hk.2⟩ dL_law_326 (fun z τ h => by rw [h.1]; exact fun _ _ _ => rfl) (fun z_ τ_ hz_ => ?_)
  obtain ⟨e_, hz_⟩ := hz_
  subst e_
  subst z_
  rw [h1]
  refine zr_iload X dL_law_329 rfl ?_
  refine zr_icmp_eq X 336 dL_law_331 (by decide) ⟨by omega, by omega⟩ ⟨by omega, by omega⟩ (fun _ => ?_) (fun f_ => absurd rfl f_)
  refine zr_iload X dL_law_336 rfl ?_
  refine zr_if_ne X 353 dL_law_338 (by decide) ⟨by omega, by omega⟩ (fun _ => ?_) (fun f_ => ?_)
  · refine zr_goto X 1532 dL_law_353 (by decide) ?_
    exact Wx.weak (lo' := loL ad b i none none) ⟨rfl, rfl, rfl, rfl, rfl, rfl, trivial⟩ (kk _ hS')
  · have h2 := h2 f_
    refine zr_aloadn X dL_law_341 rfl ?_
    refine zr_iconst X dL_law_342 ?_
    refine zr_laldw X K o50 dL_law_343 ?_
    rw [h2]
    refine zr_iload X dL_law_344 rfl ?_
    refine zr_i2lw X dL_law_346 ?_
    refine zr_lcmpw (z := 0) X dL_law_347 (lcmp_0 rfl) ?_
    refine zr_if_eq X 353 dL_law_348 (by decide) rg0 (fun _ => ?_) (fun f_ => absurd rfl f_)
    refine zr_goto X 1532 dL_law_353 (by decide) ?_
    exact Wx.weak (lo' := loL ad b i none none) ⟨rfl, rfl, rfl, rfl, rfl, rfl, trivial⟩ (kk _ hS')

set_option maxHeartbeats 4000000 in
set_option maxRecDepth 100000 in
theorem law_scale (Z : LAt l p s m args meth c D cs ad A b L xs) (S : SIM σ) (hi : 0 ≤ i ∧ i + 4 ≤ L) (hk : k + 8 ≤ 601024 ∧ n + 48 ≤ 7293034) (kk : ∀ υ : Mem, SIM υ → LW p l e s m args below meth c D cs ad A Q (k + 8) (n + 48) υ 1532 (loL ad b i none none) []) : LW p l e s m args below meth c D cs ad A Q k n σ 356 (loL ad b i none none) [] := by
  obtain ⟨X, K, hZ, hA, hX, hbl, hbA, hL, hl⟩ := Z
  have hap := K.2.1
  refine zr_aloadn X dL_law_356 rfl ?_
  refine zr_aloadn X dL_law_357 rfl ?_
  refine zr_iload X dL_law_358 rfl ?_
  refine zr_iconst X dL_law_360 ?_
  refine zr_iadd X dL_law_361 ?_
  refine zr_sld X hX hbl hbA ⟨by omega, by omega⟩ (by omega) dL_law_362 ?_
  refine zr_aloadn X dL_law_363 rfl ?_
  refine zr_iload X dL_law_364 rfl ?_
  refine zr_iconst X dL_law_366 ?_
  refine zr_iadd X dL_law_367 ?_
  refine zr_sld X hX hbl hbA ⟨by omega, by omega⟩ (by omega) dL_law_368 ?_
  refine zr_i2d X dL_law_369 ?_
  refine zr_ldc2d X dL_law_370 tw_973 ?_
  refine zr_dmul X dL_law_373 (d8_n (fr_8 (xs (i + 2).toNat))) ?_
  refine zr_aloadn X dL_law_374 rfl ?_
  refine zr_lawS X K hZ hA (As := [(.ref (ad (3, 7))), (jI ((xs (i + 1).toNat).toInt)), (.double (FP.dmul (FP.i2d (iI ((xs (i + 2).toNat).toInt))) 4593671619917905920)), (.ref (ad (5, 0)))]) (st := []) (w_scale l D cs ad hap (σ := σ) (Post := PF_scale σ ((xs (i + 1).toNat).toInt) ((xs (i + 2).toNat).toInt)) (XP := XF_scale σ ((xs (i + 1).toNat).toInt) ((xs (i + 2).toNat).toInt)) (fun sz' => c_X6_scale l D cs ad (ap_F hap) hl S.1 (iI_rg _) (fr_8 (xs (i + 2).toNat)) sz') g45_scale x_scale) tw_473 tw_474 tw_0 tw_475 dc_L_scale rfl rfl (Nat.le_of_ble_eq_true rfl) ⟨⟨Nat.le_of_ble_eq_true rfl, Nat.le_of_ble_eq_true rfl⟩, hk.1, hk.2⟩ dL_law_375 (fun ez τ hp => ?_)
  have hM := mOk_cong (wP_4 hp g45_scale) S.ok
  refine zr_istore X dL_law_378 (by decide) rfl ?_
  refine zr_aloadn X dL_law_380 rfl ?_
  refine zr_aloadn X dL_law_381 rfl ?_
  refine zr_iload X dL_law_382 rfl ?_
  refine zr_iconst X dL_law_384 ?_
  refine zr_iadd X dL_law_385 ?_
  refine zr_sld X hX hbl hbA ⟨by omega, by omega⟩ (by omega) dL_law_386 ?_
  refine zr_aloadn X dL_law_387 rfl ?_
  refine zr_iload X dL_law_388 rfl ?_
  refine zr_iconst X dL_law_390 ?_
  refine zr_iadd X dL_law_391 ?_
  refine zr_sld X hX hbl hbA ⟨by omega, by omega⟩ (by omega) dL_law_392 ?_
  refine zr_i2d X dL_law_393 ?_
  refine zr_ldc2d X dL_law_394 tw_973 ?_
  refine zr_dmul X dL_law_397 (d8_n (fr_8 (xs (i + 2).toNat))) ?_
  refine zr_mcallI X K (As := [(jI ((xs (i + 1).toNat).toInt)), (.double (FP.dmul (FP.i2d (iI ((xs (i + 2).toNat).toInt))) 4593671619917905920))]) (st := []) (Post := PM_scale τ ((xs (i + 1).toNat).toInt) ((xs (i + 2).toNat).toInt)) (rm := rrS) (c_X7_scale l D cs ad (ap_M hap) hM (iI_rg _) (fr_8 (xs (i + 2).toNat)) (fr_pos (xs (i + 2).toNat))) ⟨tw_793, tw_794, tw_795, tw_8, tw_796⟩ dc_LM_scale rfl rfl rfl (Nat.le_of_ble_eq_true rfl) ⟨rfl, rfl⟩ ⟨⟨Nat.le_of_ble_eq_true rfl, Nat.le_of_ble_eq_true rfl⟩, hk.1, hk.2⟩ dL_law_398 m4_scale (fun bz υ hq => ?_)
  obtain ⟨hS', h1, h2, h3⟩ := st_scale S hp hq
  refine zr_istore X dL_law_401 (by decide) rfl ?_
  refine zr_aloadn X dL_law_403 rfl ?_
  refine zr_mcallI X K (As := []) (st := []) (rm := rmm 0 0 0) (c_X7_thrown l D cs ad (ap_M hap)) ⟨tw_761, tw_762, tw_763, tw_8, tw_764⟩ dc_LM_thrown rfl rfl rfl (Nat.le_of_ble_eq_true rfl) ⟨rfl, rfl⟩ ⟨⟨Nat.le_of_ble_eq_true rfl, Nat.le_of_ble_eq_true rfl⟩, hk.1, hk.2⟩ dL_law_404 (fun z τ h => by rw [h.1]; exact fun _ _ _ => rfl) (fun z_ τ_ hz_ => ?_)
  obtain ⟨e_, hz_⟩ := hz_
  subst e_
  subst z_
  rw [h1]
  refine zr_iload X dL_law_407 rfl ?_
  refine zr_icmp_eq X 414 dL_law_409 (by decide) ⟨by omega, by omega⟩ ⟨by omega, by omega⟩ (fun _ => ?_) (fun f_ => absurd rfl f_)
  refine zr_iload X dL_law_414 rfl ?_
  refine zr_if_ne X 431 dL_law_416 (by decide) ⟨by omega, by omega⟩ (fun _ => ?_) (fun f_ => ?_)
  · refine zr_goto X 1532 dL_law_431 (by decide) ?_
    exact Wx.weak (lo' := loL ad b i none none) ⟨rfl, rfl, rfl, rfl, rfl, rfl, trivial⟩ (kk _ hS')
  · have h2 := h2 f_
    refine zr_aloadn X dL_law_419 rfl ?_
    refine zr_iconst X dL_law_420 ?_
    refine zr_laldw X K o50 dL_law_421 ?_
    rw [h2]
    refine zr_iload X dL_law_422 rfl ?_
    refine zr_i2lw X dL_law_424 ?_
    refine zr_lcmpw (z := 0) X dL_law_425 (lcmp_0 rfl) ?_
    refine zr_if_eq X 431 dL_law_426 (by decide) rg0 (fun _ => ?_) (fun f_ => absurd rfl f_)
    refine zr_goto X 1532 dL_law_431 (by decide) ?_
    exact Wx.weak (lo' := loL ad b i none none) ⟨rfl, rfl, rfl, rfl, rfl, rfl, trivial⟩ (kk _ hS')

set_option maxHeartbeats 4000000 in
set_option maxRecDepth 100000 in
theorem law_setEnds (Z : LAt l p s m args meth c D cs ad A b L xs) (S : SIM σ) (hi : 0 ≤ i ∧ i + 4 ≤ L) (hk : k + 8 ≤ 601024 ∧ n + 48 ≤ 7293034) (kk : ∀ υ : Mem, SIM υ → LW p l e s m args below meth c D cs ad A Q (k + 8) (n + 48) υ 1532 (loL ad b i none none) []) : LW p l e s m args below meth c D cs ad A Q k n σ 434 (loL ad b i none none) [] := by
  obtain ⟨X, K, hZ, hA, hX, hbl, hbA, hL, hl⟩ := Z
  have hap := K.2.1
  refine zr_aloadn X dL_law_434 rfl ?_
  refine zr_aloadn X dL_law_435 rfl ?_
  refine zr_iload X dL_law_436 rfl ?_
  refine zr_iconst X dL_law_438 ?_
  refine zr_iadd X dL_law_439 ?_
  refine zr_sld X hX hbl hbA ⟨by omega, by omega⟩ (by omega) dL_law_440 ?_
  refine zr_aloadn X dL_law_441 rfl ?_
  refine zr_iload X dL_law_442 rfl ?_
  refine zr_iconst X dL_law_444 ?_
  refine zr_iadd X dL_law_445 ?_
  refine zr_sld X hX hbl hbA ⟨by omega, by omega⟩ (by omega) dL_law_446 ?_
  refine zr_aloadn X dL_law_447 rfl ?_
  refine zr_lawS X K hZ hA (As := [(.ref (ad (3, 7))), (jI ((xs (i + 1).toNat).toInt)), (jI ((xs (i + 2).toNat).toInt)), (.ref (ad (5, 0)))]) (st := []) (w_setEnds l D cs ad hap (σ := σ) (Post := PF_setEnds σ ((xs (i + 1).toNat).toInt) ((xs (i + 2).toNat).toInt)) (XP := XF_setEnds σ ((xs (i + 1).toNat).toInt) ((xs (i + 2).toNat).toInt)) (fun sz' => c_X6_setEnds l D cs ad (ap_F hap) hl S.1 (iI_rg _) (iI_rg _) sz') g45_setEnds x_setEnds b01_setEnds) tw_490 tw_491 tw_0 tw_492 dc_L_setEnds rfl rfl (Nat.le_of_ble_eq_true rfl) ⟨⟨Nat.le_of_ble_eq_true rfl, Nat.le_of_ble_eq_true rfl⟩, hk.1, hk.2⟩ dL_law_448 (fun ez τ hp => ?_)
  have hM := mOk_cong (wP_4 hp g45_setEnds) S.ok
  refine zr_istore X dL_law_451 (by decide) rfl ?_
  refine zr_aloadn X dL_law_453 rfl ?_
  refine zr_aloadn X dL_law_454 rfl ?_
  refine zr_iload X dL_law_455 rfl ?_
  refine zr_iconst X dL_law_457 ?_
  refine zr_iadd X dL_law_458 ?_
  refine zr_sld X hX hbl hbA ⟨by omega, by omega⟩ (by omega) dL_law_459 ?_
  refine zr_aloadn X dL_law_460 rfl ?_
  refine zr_iload X dL_law_461 rfl ?_
  refine zr_iconst X dL_law_463 ?_
  refine zr_iadd X dL_law_464 ?_
  refine zr_sld X hX hbl hbA ⟨by omega, by omega⟩ (by omega) dL_law_465 ?_
  refine zr_mcallI X K (As := [(jI ((xs (i + 1).toNat).toInt)), (jI ((xs (i + 2).toNat).toInt))]) (st := []) (Post := PM_setEnds τ ((xs (i + 1).toNat).toInt) ((xs (i + 2).toNat).toInt)) (rm := rmm 1 0 0) (c_X7_setEnds l D cs ad (ap_M hap) hM (iI_rg _) (iI_rg _)) ⟨tw_825, tw_826, tw_827, tw_8, tw_828⟩ dc_LM_setEnds rfl rfl rfl (Nat.le_of_ble_eq_true rfl) ⟨rfl, rfl⟩ ⟨⟨Nat.le_of_ble_eq_true rfl, Nat.le_of_ble_eq_true rfl⟩, hk.1, hk.2⟩ dL_law_466 m4_setEnds (fun bz υ hq => ?_)
  obtain ⟨hS', h1, h2, h3⟩ := st_setEnds S hp hq
  refine zr_istore X dL_law_469 (by decide) rfl ?_
  refine zr_aloadn X dL_law_471 rfl ?_
  refine zr_mcallI X K (As := []) (st := []) (rm := rmm 0 0 0) (c_X7_thrown l D cs ad (ap_M hap)) ⟨tw_761, tw_762, tw_763, tw_8, tw_764⟩ dc_LM_thrown rfl rfl rfl (Nat.le_of_ble_eq_true rfl) ⟨rfl, rfl⟩ ⟨⟨Nat.le_of_ble_eq_true rfl, Nat.le_of_ble_eq_true rfl⟩, hk.1, hk.2⟩ dL_law_472 (fun z τ h => by rw [h.1]; exact fun _ _ _ => rfl) (fun z_ τ_ hz_ => ?_)
  obtain ⟨e_, hz_⟩ := hz_
  subst e_
  subst z_
  rw [h1]
  refine zr_iload X dL_law_475 rfl ?_
  refine zr_icmp_eq X 482 dL_law_477 (by decide) ⟨by omega, by omega⟩ ⟨by omega, by omega⟩ (fun _ => ?_) (fun f_ => absurd rfl f_)
  refine zr_iload X dL_law_482 rfl ?_
  refine zr_if_ne X 506 dL_law_484 (by decide) ⟨by omega, by omega⟩ (fun _ => ?_) (fun f_ => ?_)
  · refine zr_goto X 1532 dL_law_506 (by decide) ?_
    exact Wx.weak (lo' := loL ad b i none none) ⟨rfl, rfl, rfl, rfl, rfl, rfl, trivial⟩ (kk _ hS')
  · have h2 := h2 f_
    refine zr_aloadn X dL_law_487 rfl ?_
    refine zr_iconst X dL_law_488 ?_
    refine zr_laldw X K o50 dL_law_489 ?_
    rw [h2]
    refine zr_iload X dL_law_490 rfl ?_
    have hb01 := b2_setEnds S hp hq f_
    refine zr_if_eq X 499 dL_law_492 (by decide) (by rcases hb01 with g | g <;> rw [g] <;> exact ⟨by decide, by decide⟩) (fun t_ => ?_) (fun g_ => ?_)
    · have hbv : bz = 0 := t_
      refine zr_lconst X dL_law_499 ?_
      refine zr_lcmpw (z := 0) X dL_law_500 (lcmp_0 (by rw [hbv]; rfl)) ?_
      refine zr_if_eq X 506 dL_law_501 (by decide) rg0 (fun _ => ?_) (fun f_ => absurd rfl f_)
      refine zr_goto X 1532 dL_law_506 (by decide) ?_
      exact Wx.weak (lo' := loL ad b i none none) ⟨rfl, rfl, rfl, rfl, rfl, rfl, trivial⟩ (kk _ hS')
    · have hbv : bz = 1 := by rcases hb01 with g | g; exact absurd g g_; exact g
      refine zr_lconst X dL_law_495 ?_
      refine zr_goto X 500 dL_law_496 (by decide) ?_
      refine zr_lcmpw (z := 0) X dL_law_500 (lcmp_0 (by rw [hbv]; rfl)) ?_
      refine zr_if_eq X 506 dL_law_501 (by decide) rg0 (fun _ => ?_) (fun f_ => absurd rfl f_)
      refine zr_goto X 1532 dL_law_506 (by decide) ?_
      exact Wx.weak (lo' := loL ad b i none none) ⟨rfl, rfl, rfl, rfl, rfl, rfl, trivial⟩ (kk _ hS')

set_option maxHeartbeats 4000000 in
set_option maxRecDepth 100000 in
theorem law_nodeCount (Z : LAt l p s m args meth c D cs ad A b L xs) (S : SIM σ) (hi : 0 ≤ i ∧ i + 4 ≤ L) (hk : k + 8 ≤ 601024 ∧ n + 48 ≤ 7293034) (kk : ∀ υ : Mem, SIM υ → LW p l e s m args below meth c D cs ad A Q (k) (n) υ 1532 (loL ad b i none none) []) : LW p l e s m args below meth c D cs ad A Q k n σ 509 (loL ad b i none none) [] := by
  obtain ⟨X, K, hZ, hA, hX, hbl, hbA, hL, hl⟩ := Z
  have hap := K.2.1
  refine zr_aloadn X dL_law_509 rfl ?_
  refine zr_fcallI X K (As := []) (st := []) (c_X6_nodeCount l D cs ad (ap_F hap)) ⟨tw_216, tw_217, tw_218, tw_1, tw_219⟩ dc_LF_nodeCount rfl rfl rfl (Nat.le_of_ble_eq_true rfl) ⟨⟨Nat.le_of_ble_eq_true rfl, Nat.le_of_ble_eq_true rfl⟩, (show k ≤ 601024 by omega), (show n ≤ 7293034 by omega)⟩ dL_law_510 (fun z τ h => by rw [h.1]; exact g45.rf) (fun z τ hp => ?_)
  have hM : mOk τ := by rw [hp.1]; exact S.ok
  refine zr_aloadn X dL_law_513 rfl ?_
  refine zr_mcallI X K (As := []) (st := [(jI z)]) (Post := fun z υ => fq τ υ ∧ z = τ (4, 2) 0) (rm := rmm 0 0 0) (c_X7_nodeCount l D cs ad (ap_M hap) hM) ⟨tw_829, tw_830, tw_831, tw_8, tw_832⟩ dc_LM_nodeCount rfl rfl rfl (Nat.le_of_ble_eq_true rfl) ⟨rfl, rfl⟩ ⟨⟨Nat.le_of_ble_eq_true rfl, Nat.le_of_ble_eq_true rfl⟩, (show k ≤ 601024 by omega), (show n ≤ 7293034 by omega)⟩ dL_law_514 (fun z τ h => fq.g4 h.1) (fun bz υ hq => ?_)
  obtain ⟨hS', h1, h2⟩ := st_nodeCount S hp hq
  subst h1
  refine zr_icmp_eq X 1532 dL_law_517 (by decide) ⟨by omega, by omega⟩ ⟨by omega, by omega⟩ (fun _ => ?_) (fun f_ => absurd rfl f_)
  exact Wx.weak (lo' := loL ad b i none none) ⟨rfl, rfl, rfl, rfl, rfl, rfl, trivial⟩ (kk _ hS')

set_option maxHeartbeats 4000000 in
set_option maxRecDepth 100000 in
theorem law_arcCount (Z : LAt l p s m args meth c D cs ad A b L xs) (S : SIM σ) (hi : 0 ≤ i ∧ i + 4 ≤ L) (hk : k + 8 ≤ 601024 ∧ n + 48 ≤ 7293034) (kk : ∀ υ : Mem, SIM υ → LW p l e s m args below meth c D cs ad A Q (k) (n) υ 1532 (loL ad b i none none) []) : LW p l e s m args below meth c D cs ad A Q k n σ 522 (loL ad b i none none) [] := by
  obtain ⟨X, K, hZ, hA, hX, hbl, hbA, hL, hl⟩ := Z
  have hap := K.2.1
  refine zr_aloadn X dL_law_522 rfl ?_
  refine zr_fcallI X K (As := []) (st := []) (c_X6_arcCount l D cs ad (ap_F hap)) ⟨tw_220, tw_221, tw_222, tw_1, tw_223⟩ dc_LF_arcCount rfl rfl rfl (Nat.le_of_ble_eq_true rfl) ⟨⟨Nat.le_of_ble_eq_true rfl, Nat.le_of_ble_eq_true rfl⟩, (show k ≤ 601024 by omega), (show n ≤ 7293034 by omega)⟩ dL_law_523 (fun z τ h => by rw [h.1]; exact g45.rf) (fun z τ hp => ?_)
  have hM : mOk τ := by rw [hp.1]; exact S.ok
  refine zr_aloadn X dL_law_526 rfl ?_
  refine zr_mcallI X K (As := []) (st := [(jI z)]) (Post := fun z υ => fq τ υ ∧ z = τ (4, 3) 0) (rm := rmm 0 0 0) (c_X7_arcCount l D cs ad (ap_M hap) hM) ⟨tw_833, tw_834, tw_835, tw_8, tw_836⟩ dc_LM_arcCount rfl rfl rfl (Nat.le_of_ble_eq_true rfl) ⟨rfl, rfl⟩ ⟨⟨Nat.le_of_ble_eq_true rfl, Nat.le_of_ble_eq_true rfl⟩, (show k ≤ 601024 by omega), (show n ≤ 7293034 by omega)⟩ dL_law_527 (fun z τ h => fq.g4 h.1) (fun bz υ hq => ?_)
  obtain ⟨hS', h1, h2⟩ := st_arcCount S hp hq
  subst h1
  refine zr_icmp_eq X 1532 dL_law_530 (by decide) ⟨by omega, by omega⟩ ⟨by omega, by omega⟩ (fun _ => ?_) (fun f_ => absurd rfl f_)
  exact Wx.weak (lo' := loL ad b i none none) ⟨rfl, rfl, rfl, rfl, rfl, rfl, trivial⟩ (kk _ hS')

set_option maxHeartbeats 4000000 in
set_option maxRecDepth 100000 in
theorem law_capacity (Z : LAt l p s m args meth c D cs ad A b L xs) (S : SIM σ) (hi : 0 ≤ i ∧ i + 4 ≤ L) (hk : k + 8 ≤ 601024 ∧ n + 48 ≤ 7293034) (kk : ∀ υ : Mem, SIM υ → LW p l e s m args below meth c D cs ad A Q (k + 8) (n + 48) υ 1532 (loL ad b i none none) []) : LW p l e s m args below meth c D cs ad A Q k n σ 535 (loL ad b i none none) [] := by
  obtain ⟨X, K, hZ, hA, hX, hbl, hbA, hL, hl⟩ := Z
  have hap := K.2.1
  refine zr_aloadn X dL_law_535 rfl ?_
  refine zr_aloadn X dL_law_536 rfl ?_
  refine zr_iload X dL_law_537 rfl ?_
  refine zr_iconst X dL_law_539 ?_
  refine zr_iadd X dL_law_540 ?_
  refine zr_sld X hX hbl hbA ⟨by omega, by omega⟩ (by omega) dL_law_541 ?_
  refine zr_aloadn X dL_law_542 rfl ?_
  refine zr_lawS X K hZ hA (As := [(.ref (ad (3, 7))), (jI ((xs (i + 1).toNat).toInt)), (.ref (ad (5, 0)))]) (st := []) (w_capacity l D cs ad hap (σ := σ) (Post := PF_capacity σ ((xs (i + 1).toNat).toInt)) (XP := XF_capacity σ ((xs (i + 1).toNat).toInt)) (fun sz' => c_X6_capacity l D cs ad (ap_F hap) hl S.1 (iI_rg _) sz') g45_capacity x_capacity) tw_502 tw_503 tw_0 tw_504 dc_L_capacity rfl rfl (Nat.le_of_ble_eq_true rfl) ⟨⟨Nat.le_of_ble_eq_true rfl, Nat.le_of_ble_eq_true rfl⟩, hk.1, hk.2⟩ dL_law_543 (fun ez τ hp => ?_)
  have hM := mOk_cong (wP_4 hp g45_capacity) S.ok
  refine zr_istore X dL_law_546 (by decide) rfl ?_
  refine zr_aloadn X dL_law_548 rfl ?_
  refine zr_aloadn X dL_law_549 rfl ?_
  refine zr_iload X dL_law_550 rfl ?_
  refine zr_iconst X dL_law_552 ?_
  refine zr_iadd X dL_law_553 ?_
  refine zr_sld X hX hbl hbA ⟨by omega, by omega⟩ (by omega) dL_law_554 ?_
  refine zr_mcallI X K (As := [(jI ((xs (i + 1).toNat).toInt))]) (st := []) (Post := PM_capacity τ ((xs (i + 1).toNat).toInt)) (rm := rmm 1 0 0) (c_X7_capacity l D cs ad (ap_M hap) hM (iI_rg _)) ⟨tw_837, tw_838, tw_839, tw_8, tw_840⟩ dc_LM_capacity rfl rfl rfl (Nat.le_of_ble_eq_true rfl) ⟨rfl, rfl⟩ ⟨⟨Nat.le_of_ble_eq_true rfl, Nat.le_of_ble_eq_true rfl⟩, hk.1, hk.2⟩ dL_law_555 m4_capacity (fun bz υ hq => ?_)
  obtain ⟨hS', h1, h2, h3⟩ := st_capacity S hp hq
  refine zr_istore X dL_law_558 (by decide) rfl ?_
  refine zr_aloadn X dL_law_560 rfl ?_
  refine zr_mcallI X K (As := []) (st := []) (rm := rmm 0 0 0) (c_X7_thrown l D cs ad (ap_M hap)) ⟨tw_761, tw_762, tw_763, tw_8, tw_764⟩ dc_LM_thrown rfl rfl rfl (Nat.le_of_ble_eq_true rfl) ⟨rfl, rfl⟩ ⟨⟨Nat.le_of_ble_eq_true rfl, Nat.le_of_ble_eq_true rfl⟩, hk.1, hk.2⟩ dL_law_561 (fun z τ h => by rw [h.1]; exact fun _ _ _ => rfl) (fun z_ τ_ hz_ => ?_)
  obtain ⟨e_, hz_⟩ := hz_
  subst e_
  subst z_
  rw [h1]
  refine zr_iload X dL_law_564 rfl ?_
  refine zr_icmp_eq X 571 dL_law_566 (by decide) ⟨by omega, by omega⟩ ⟨by omega, by omega⟩ (fun _ => ?_) (fun f_ => absurd rfl f_)
  refine zr_iload X dL_law_571 rfl ?_
  refine zr_if_ne X 588 dL_law_573 (by decide) ⟨by omega, by omega⟩ (fun _ => ?_) (fun f_ => ?_)
  · refine zr_goto X 1532 dL_law_588 (by decide) ?_
    exact Wx.weak (lo' := loL ad b i none none) ⟨rfl, rfl, rfl, rfl, rfl, rfl, trivial⟩ (kk _ hS')
  · have h2 := h2 f_
    refine zr_aloadn X dL_law_576 rfl ?_
    refine zr_iconst X dL_law_577 ?_
    refine zr_laldw X K o50 dL_law_578 ?_
    rw [h2]
    refine zr_iload X dL_law_579 rfl ?_
    refine zr_i2lw X dL_law_581 ?_
    refine zr_lcmpw (z := 0) X dL_law_582 (lcmp_0 rfl) ?_
    refine zr_if_eq X 588 dL_law_583 (by decide) rg0 (fun _ => ?_) (fun f_ => absurd rfl f_)
    refine zr_goto X 1532 dL_law_588 (by decide) ?_
    exact Wx.weak (lo' := loL ad b i none none) ⟨rfl, rfl, rfl, rfl, rfl, rfl, trivial⟩ (kk _ hS')

set_option maxHeartbeats 4000000 in
set_option maxRecDepth 100000 in
theorem law_maximum (Z : LAt l p s m args meth c D cs ad A b L xs) (S : SIM σ) (hi : 0 ≤ i ∧ i + 4 ≤ L) (hk : k + 8 ≤ 601024 ∧ n + 48 ≤ 7293034) (kk : ∀ υ : Mem, SIM υ → LW p l e s m args below meth c D cs ad A Q (k + 8) (n + 48) υ 1532 (loL ad b i none none) []) : LW p l e s m args below meth c D cs ad A Q k n σ 591 (loL ad b i none none) [] := by
  obtain ⟨X, K, hZ, hA, hX, hbl, hbA, hL, hl⟩ := Z
  have hap := K.2.1
  refine zr_aloadn X dL_law_591 rfl ?_
  refine zr_aloadn X dL_law_592 rfl ?_
  refine zr_lawS X K hZ hA (As := [(.ref (ad (3, 7))), (.ref (ad (5, 0)))]) (st := []) (w_maximum l D cs ad hap (σ := σ) (Post := PF_maximum σ) (XP := XF_maximum σ) (fun sz' => c_X6_maximum l D cs ad (ap_F hap) hl S.1 sz') g45_maximum x_maximum) tw_509 tw_510 tw_0 tw_511 dc_L_maximum rfl rfl (Nat.le_of_ble_eq_true rfl) ⟨⟨Nat.le_of_ble_eq_true rfl, Nat.le_of_ble_eq_true rfl⟩, hk.1, hk.2⟩ dL_law_593 (fun ez τ hp => ?_)
  have hM := mOk_cong (wP_4 hp g45_maximum) S.ok
  refine zr_istore X dL_law_596 (by decide) rfl ?_
  refine zr_aloadn X dL_law_598 rfl ?_
  refine zr_mcallI X K (As := []) (st := []) (Post := PM_maximum τ) (rm := rmm 3 0 0) (c_X7_maximum l D cs ad (ap_M hap) hM) ⟨tw_841, tw_842, tw_843, tw_8, tw_844⟩ dc_LM_maximum rfl rfl rfl (Nat.le_of_ble_eq_true rfl) ⟨rfl, rfl⟩ ⟨⟨Nat.le_of_ble_eq_true rfl, Nat.le_of_ble_eq_true rfl⟩, hk.1, hk.2⟩ dL_law_599 m4_maximum (fun bz υ hq => ?_)
  obtain ⟨hS', h1, h2, h3⟩ := st_maximum S hp hq
  refine zr_istore X dL_law_602 (by decide) rfl ?_
  refine zr_aloadn X dL_law_604 rfl ?_
  refine zr_mcallI X K (As := []) (st := []) (rm := rmm 0 0 0) (c_X7_thrown l D cs ad (ap_M hap)) ⟨tw_761, tw_762, tw_763, tw_8, tw_764⟩ dc_LM_thrown rfl rfl rfl (Nat.le_of_ble_eq_true rfl) ⟨rfl, rfl⟩ ⟨⟨Nat.le_of_ble_eq_true rfl, Nat.le_of_ble_eq_true rfl⟩, hk.1, hk.2⟩ dL_law_605 (fun z τ h => by rw [h.1]; exact fun _ _ _ => rfl) (fun z_ τ_ hz_ => ?_)
  obtain ⟨e_, hz_⟩ := hz_
  subst e_
  subst z_
  rw [h1]
  refine zr_iload X dL_law_608 rfl ?_
  refine zr_icmp_eq X 615 dL_law_610 (by decide) ⟨by omega, by omega⟩ ⟨by omega, by omega⟩ (fun _ => ?_) (fun f_ => absurd rfl f_)
  refine zr_iload X dL_law_615 rfl ?_
  refine zr_if_ne X 632 dL_law_617 (by decide) ⟨by omega, by omega⟩ (fun _ => ?_) (fun f_ => ?_)
  · refine zr_goto X 1532 dL_law_632 (by decide) ?_
    exact Wx.weak (lo' := loL ad b i none none) ⟨rfl, rfl, rfl, rfl, rfl, rfl, trivial⟩ (kk _ hS')
  · have h2 := h2 f_
    refine zr_aloadn X dL_law_620 rfl ?_
    refine zr_iconst X dL_law_621 ?_
    refine zr_laldw X K o50 dL_law_622 ?_
    rw [h2]
    refine zr_iload X dL_law_623 rfl ?_
    refine zr_i2lw X dL_law_625 ?_
    refine zr_lcmpw (z := 0) X dL_law_626 (lcmp_0 rfl) ?_
    refine zr_if_eq X 632 dL_law_627 (by decide) rg0 (fun _ => ?_) (fun f_ => absurd rfl f_)
    refine zr_goto X 1532 dL_law_632 (by decide) ?_
    exact Wx.weak (lo' := loL ad b i none none) ⟨rfl, rfl, rfl, rfl, rfl, rfl, trivial⟩ (kk _ hS')

set_option maxHeartbeats 4000000 in
set_option maxRecDepth 100000 in
theorem law_maximumWith (Z : LAt l p s m args meth c D cs ad A b L xs) (S : SIM σ) (hi : 0 ≤ i ∧ i + 4 ≤ L) (hk : k + 8 ≤ 601024 ∧ n + 48 ≤ 7293034) (kk : ∀ υ : Mem, SIM υ → LW p l e s m args below meth c D cs ad A Q (k + 8) (n + 48) υ 1532 (loL ad b i none none) []) : LW p l e s m args below meth c D cs ad A Q k n σ 635 (loL ad b i none none) [] := by
  obtain ⟨X, K, hZ, hA, hX, hbl, hbA, hL, hl⟩ := Z
  have hap := K.2.1
  refine zr_aloadn X dL_law_635 rfl ?_
  refine zr_aloadn X dL_law_636 rfl ?_
  refine zr_iload X dL_law_637 rfl ?_
  refine zr_iconst X dL_law_639 ?_
  refine zr_iadd X dL_law_640 ?_
  refine zr_sld X hX hbl hbA ⟨by omega, by omega⟩ (by omega) dL_law_641 ?_
  refine zr_aloadn X dL_law_642 rfl ?_
  refine zr_iload X dL_law_643 rfl ?_
  refine zr_iconst X dL_law_645 ?_
  refine zr_iadd X dL_law_646 ?_
  refine zr_sld X hX hbl hbA ⟨by omega, by omega⟩ (by omega) dL_law_647 ?_
  refine zr_aloadn X dL_law_648 rfl ?_
  refine zr_lawS X K hZ hA (As := [(.ref (ad (3, 7))), (jI ((xs (i + 1).toNat).toInt)), (jI ((xs (i + 2).toNat).toInt)), (.ref (ad (5, 0)))]) (st := []) (w_maximumWith l D cs ad hap (σ := σ) (Post := PF_maximumWith σ ((xs (i + 1).toNat).toInt) ((xs (i + 2).toNat).toInt)) (XP := XF_maximumWith σ ((xs (i + 1).toNat).toInt) ((xs (i + 2).toNat).toInt)) (fun sz' => c_X6_maximumWith l D cs ad (ap_F hap) hl S.1 (iI_rg _) (iI_rg _) sz') g45_maximumWith x_maximumWith) tw_521 tw_522 tw_0 tw_523 dc_L_maximumWith rfl rfl (Nat.le_of_ble_eq_true rfl) ⟨⟨Nat.le_of_ble_eq_true rfl, Nat.le_of_ble_eq_true rfl⟩, hk.1, hk.2⟩ dL_law_649 (fun ez τ hp => ?_)
  have hM := mOk_cong (wP_4 hp g45_maximumWith) S.ok
  refine zr_istore X dL_law_652 (by decide) rfl ?_
  refine zr_aloadn X dL_law_654 rfl ?_
  refine zr_aloadn X dL_law_655 rfl ?_
  refine zr_iload X dL_law_656 rfl ?_
  refine zr_iconst X dL_law_658 ?_
  refine zr_iadd X dL_law_659 ?_
  refine zr_sld X hX hbl hbA ⟨by omega, by omega⟩ (by omega) dL_law_660 ?_
  refine zr_aloadn X dL_law_661 rfl ?_
  refine zr_iload X dL_law_662 rfl ?_
  refine zr_iconst X dL_law_664 ?_
  refine zr_iadd X dL_law_665 ?_
  refine zr_sld X hX hbl hbA ⟨by omega, by omega⟩ (by omega) dL_law_666 ?_
  refine zr_mcallI X K (As := [(jI ((xs (i + 1).toNat).toInt)), (jI ((xs (i + 2).toNat).toInt))]) (st := []) (Post := PM_maximumWith τ ((xs (i + 1).toNat).toInt) ((xs (i + 2).toNat).toInt)) (rm := rmm 4 0 0) (c_X7_maximumWith l D cs ad (ap_M hap) hM (iI_rg _) (iI_rg _)) ⟨tw_867, tw_868, tw_869, tw_8, tw_870⟩ dc_LM_maximumWith rfl rfl rfl (Nat.le_of_ble_eq_true rfl) ⟨rfl, rfl⟩ ⟨⟨Nat.le_of_ble_eq_true rfl, Nat.le_of_ble_eq_true rfl⟩, hk.1, hk.2⟩ dL_law_667 m4_maximumWith (fun bz υ hq => ?_)
  obtain ⟨hS', h1, h2, h3⟩ := st_maximumWith S hp hq
  refine zr_istore X dL_law_670 (by decide) rfl ?_
  refine zr_aloadn X dL_law_672 rfl ?_
  refine zr_mcallI X K (As := []) (st := []) (rm := rmm 0 0 0) (c_X7_thrown l D cs ad (ap_M hap)) ⟨tw_761, tw_762, tw_763, tw_8, tw_764⟩ dc_LM_thrown rfl rfl rfl (Nat.le_of_ble_eq_true rfl) ⟨rfl, rfl⟩ ⟨⟨Nat.le_of_ble_eq_true rfl, Nat.le_of_ble_eq_true rfl⟩, hk.1, hk.2⟩ dL_law_673 (fun z τ h => by rw [h.1]; exact fun _ _ _ => rfl) (fun z_ τ_ hz_ => ?_)
  obtain ⟨e_, hz_⟩ := hz_
  subst e_
  subst z_
  rw [h1]
  refine zr_iload X dL_law_676 rfl ?_
  refine zr_icmp_eq X 683 dL_law_678 (by decide) ⟨by omega, by omega⟩ ⟨by omega, by omega⟩ (fun _ => ?_) (fun f_ => absurd rfl f_)
  refine zr_iload X dL_law_683 rfl ?_
  refine zr_if_ne X 700 dL_law_685 (by decide) ⟨by omega, by omega⟩ (fun _ => ?_) (fun f_ => ?_)
  · refine zr_goto X 1532 dL_law_700 (by decide) ?_
    exact Wx.weak (lo' := loL ad b i none none) ⟨rfl, rfl, rfl, rfl, rfl, rfl, trivial⟩ (kk _ hS')
  · have h2 := h2 f_
    refine zr_aloadn X dL_law_688 rfl ?_
    refine zr_iconst X dL_law_689 ?_
    refine zr_laldw X K o50 dL_law_690 ?_
    rw [h2]
    refine zr_iload X dL_law_691 rfl ?_
    refine zr_i2lw X dL_law_693 ?_
    refine zr_lcmpw (z := 0) X dL_law_694 (lcmp_0 rfl) ?_
    refine zr_if_eq X 700 dL_law_695 (by decide) rg0 (fun _ => ?_) (fun f_ => absurd rfl f_)
    refine zr_goto X 1532 dL_law_700 (by decide) ?_
    exact Wx.weak (lo' := loL ad b i none none) ⟨rfl, rfl, rfl, rfl, rfl, rfl, trivial⟩ (kk _ hS')

set_option maxHeartbeats 4000000 in
set_option maxRecDepth 100000 in
theorem law_maximumWithout (Z : LAt l p s m args meth c D cs ad A b L xs) (S : SIM σ) (hi : 0 ≤ i ∧ i + 4 ≤ L) (hk : k + 8 ≤ 601024 ∧ n + 48 ≤ 7293034) (kk : ∀ υ : Mem, SIM υ → LW p l e s m args below meth c D cs ad A Q (k + 8) (n + 48) υ 1532 (loL ad b i none none) []) : LW p l e s m args below meth c D cs ad A Q k n σ 703 (loL ad b i none none) [] := by
  obtain ⟨X, K, hZ, hA, hX, hbl, hbA, hL, hl⟩ := Z
  have hap := K.2.1
  refine zr_aloadn X dL_law_703 rfl ?_
  refine zr_aloadn X dL_law_704 rfl ?_
  refine zr_iload X dL_law_705 rfl ?_
  refine zr_iconst X dL_law_707 ?_
  refine zr_iadd X dL_law_708 ?_
  refine zr_sld X hX hbl hbA ⟨by omega, by omega⟩ (by omega) dL_law_709 ?_
  refine zr_aloadn X dL_law_710 rfl ?_
  refine zr_lawS X K hZ hA (As := [(.ref (ad (3, 7))), (jI ((xs (i + 1).toNat).toInt)), (.ref (ad (5, 0)))]) (st := []) (w_maximumWithout l D cs ad hap (σ := σ) (Post := PF_maximumWithout σ ((xs (i + 1).toNat).toInt)) (XP := XF_maximumWithout σ ((xs (i + 1).toNat).toInt)) (fun sz' => c_X6_maximumWithout l D cs ad (ap_F hap) hl S.1 (iI_rg _) sz') g45_maximumWithout x_maximumWithout) tw_539 tw_540 tw_0 tw_541 dc_L_maximumWithout rfl rfl (Nat.le_of_ble_eq_true rfl) ⟨⟨Nat.le_of_ble_eq_true rfl, Nat.le_of_ble_eq_true rfl⟩, hk.1, hk.2⟩ dL_law_711 (fun ez τ hp => ?_)
  have hM := mOk_cong (wP_4 hp g45_maximumWithout) S.ok
  refine zr_istore X dL_law_714 (by decide) rfl ?_
  refine zr_aloadn X dL_law_716 rfl ?_
  refine zr_aloadn X dL_law_717 rfl ?_
  refine zr_iload X dL_law_718 rfl ?_
  refine zr_iconst X dL_law_720 ?_
  refine zr_iadd X dL_law_721 ?_
  refine zr_sld X hX hbl hbA ⟨by omega, by omega⟩ (by omega) dL_law_722 ?_
  refine zr_mcallI X K (As := [(jI ((xs (i + 1).toNat).toInt))]) (st := []) (Post := PM_maximumWithout τ ((xs (i + 1).toNat).toInt)) (rm := rmm 3 0 0) (c_X7_maximumWithout l D cs ad (ap_M hap) hM (iI_rg _)) ⟨tw_879, tw_880, tw_881, tw_8, tw_882⟩ dc_LM_maximumWithout rfl rfl rfl (Nat.le_of_ble_eq_true rfl) ⟨rfl, rfl⟩ ⟨⟨Nat.le_of_ble_eq_true rfl, Nat.le_of_ble_eq_true rfl⟩, hk.1, hk.2⟩ dL_law_723 m4_maximumWithout (fun bz υ hq => ?_)
  obtain ⟨hS', h1, h2, h3⟩ := st_maximumWithout S hp hq
  refine zr_istore X dL_law_726 (by decide) rfl ?_
  refine zr_aloadn X dL_law_728 rfl ?_
  refine zr_mcallI X K (As := []) (st := []) (rm := rmm 0 0 0) (c_X7_thrown l D cs ad (ap_M hap)) ⟨tw_761, tw_762, tw_763, tw_8, tw_764⟩ dc_LM_thrown rfl rfl rfl (Nat.le_of_ble_eq_true rfl) ⟨rfl, rfl⟩ ⟨⟨Nat.le_of_ble_eq_true rfl, Nat.le_of_ble_eq_true rfl⟩, hk.1, hk.2⟩ dL_law_729 (fun z τ h => by rw [h.1]; exact fun _ _ _ => rfl) (fun z_ τ_ hz_ => ?_)
  obtain ⟨e_, hz_⟩ := hz_
  subst e_
  subst z_
  rw [h1]
  refine zr_iload X dL_law_732 rfl ?_
  refine zr_icmp_eq X 739 dL_law_734 (by decide) ⟨by omega, by omega⟩ ⟨by omega, by omega⟩ (fun _ => ?_) (fun f_ => absurd rfl f_)
  refine zr_iload X dL_law_739 rfl ?_
  refine zr_if_ne X 756 dL_law_741 (by decide) ⟨by omega, by omega⟩ (fun _ => ?_) (fun f_ => ?_)
  · refine zr_goto X 1532 dL_law_756 (by decide) ?_
    exact Wx.weak (lo' := loL ad b i none none) ⟨rfl, rfl, rfl, rfl, rfl, rfl, trivial⟩ (kk _ hS')
  · have h2 := h2 f_
    refine zr_aloadn X dL_law_744 rfl ?_
    refine zr_iconst X dL_law_745 ?_
    refine zr_laldw X K o50 dL_law_746 ?_
    rw [h2]
    refine zr_iload X dL_law_747 rfl ?_
    refine zr_i2lw X dL_law_749 ?_
    refine zr_lcmpw (z := 0) X dL_law_750 (lcmp_0 rfl) ?_
    refine zr_if_eq X 756 dL_law_751 (by decide) rg0 (fun _ => ?_) (fun f_ => absurd rfl f_)
    refine zr_goto X 1532 dL_law_756 (by decide) ?_
    exact Wx.weak (lo' := loL ad b i none none) ⟨rfl, rfl, rfl, rfl, rfl, rfl, trivial⟩ (kk _ hS')

set_option maxHeartbeats 4000000 in
set_option maxRecDepth 100000 in
theorem law_maximumBetween (Z : LAt l p s m args meth c D cs ad A b L xs) (S : SIM σ) (hi : 0 ≤ i ∧ i + 4 ≤ L) (hk : k + 8 ≤ 601024 ∧ n + 48 ≤ 7293034) (kk : ∀ υ : Mem, SIM υ → LW p l e s m args below meth c D cs ad A Q (k + 8) (n + 48) υ 1532 (loL ad b i none none) []) : LW p l e s m args below meth c D cs ad A Q k n σ 759 (loL ad b i none none) [] := by
  obtain ⟨X, K, hZ, hA, hX, hbl, hbA, hL, hl⟩ := Z
  have hap := K.2.1
  refine zr_aloadn X dL_law_759 rfl ?_
  refine zr_aloadn X dL_law_760 rfl ?_
  refine zr_iload X dL_law_761 rfl ?_
  refine zr_iconst X dL_law_763 ?_
  refine zr_iadd X dL_law_764 ?_
  refine zr_sld X hX hbl hbA ⟨by omega, by omega⟩ (by omega) dL_law_765 ?_
  refine zr_aloadn X dL_law_766 rfl ?_
  refine zr_iload X dL_law_767 rfl ?_
  refine zr_iconst X dL_law_769 ?_
  refine zr_iadd X dL_law_770 ?_
  refine zr_sld X hX hbl hbA ⟨by omega, by omega⟩ (by omega) dL_law_771 ?_
  refine zr_aloadn X dL_law_772 rfl ?_
  refine zr_lawS X K hZ hA (As := [(.ref (ad (3, 7))), (jI ((xs (i + 1).toNat).toInt)), (jI ((xs (i + 2).toNat).toInt)), (.ref (ad (5, 0)))]) (st := []) (w_maximumBetween l D cs ad hap (σ := σ) (Post := PF_maximumBetween σ ((xs (i + 1).toNat).toInt) ((xs (i + 2).toNat).toInt)) (XP := XF_maximumBetween σ ((xs (i + 1).toNat).toInt) ((xs (i + 2).toNat).toInt)) (fun sz' => c_X6_maximumBetween l D cs ad (ap_F hap) hl S.1 (iI_rg _) (iI_rg _) sz') g45_maximumBetween x_maximumBetween) tw_546 tw_547 tw_0 tw_548 dc_L_maximumBetween rfl rfl (Nat.le_of_ble_eq_true rfl) ⟨⟨Nat.le_of_ble_eq_true rfl, Nat.le_of_ble_eq_true rfl⟩, hk.1, hk.2⟩ dL_law_773 (fun ez τ hp => ?_)
  have hM := mOk_cong (wP_4 hp g45_maximumBetween) S.ok
  refine zr_istore X dL_law_776 (by decide) rfl ?_
  refine zr_aloadn X dL_law_778 rfl ?_
  refine zr_aloadn X dL_law_779 rfl ?_
  refine zr_iload X dL_law_780 rfl ?_
  refine zr_iconst X dL_law_782 ?_
  refine zr_iadd X dL_law_783 ?_
  refine zr_sld X hX hbl hbA ⟨by omega, by omega⟩ (by omega) dL_law_784 ?_
  refine zr_aloadn X dL_law_785 rfl ?_
  refine zr_iload X dL_law_786 rfl ?_
  refine zr_iconst X dL_law_788 ?_
  refine zr_iadd X dL_law_789 ?_
  refine zr_sld X hX hbl hbA ⟨by omega, by omega⟩ (by omega) dL_law_790 ?_
  refine zr_mcallI X K (As := [(jI ((xs (i + 1).toNat).toInt)), (jI ((xs (i + 2).toNat).toInt))]) (st := []) (Post := PM_maximumBetween τ ((xs (i + 1).toNat).toInt) ((xs (i + 2).toNat).toInt)) (rm := rmm 3 0 0) (c_X7_maximumBetween l D cs ad (ap_M hap) hM (iI_rg _) (iI_rg _)) ⟨tw_883, tw_884, tw_885, tw_8, tw_886⟩ dc_LM_maximumBetween rfl rfl rfl (Nat.le_of_ble_eq_true rfl) ⟨rfl, rfl⟩ ⟨⟨Nat.le_of_ble_eq_true rfl, Nat.le_of_ble_eq_true rfl⟩, hk.1, hk.2⟩ dL_law_791 m4_maximumBetween (fun bz υ hq => ?_)
  obtain ⟨hS', h1, h2, h3⟩ := st_maximumBetween S hp hq
  refine zr_istore X dL_law_794 (by decide) rfl ?_
  refine zr_aloadn X dL_law_796 rfl ?_
  refine zr_mcallI X K (As := []) (st := []) (rm := rmm 0 0 0) (c_X7_thrown l D cs ad (ap_M hap)) ⟨tw_761, tw_762, tw_763, tw_8, tw_764⟩ dc_LM_thrown rfl rfl rfl (Nat.le_of_ble_eq_true rfl) ⟨rfl, rfl⟩ ⟨⟨Nat.le_of_ble_eq_true rfl, Nat.le_of_ble_eq_true rfl⟩, hk.1, hk.2⟩ dL_law_797 (fun z τ h => by rw [h.1]; exact fun _ _ _ => rfl) (fun z_ τ_ hz_ => ?_)
  obtain ⟨e_, hz_⟩ := hz_
  subst e_
  subst z_
  rw [h1]
  refine zr_iload X dL_law_800 rfl ?_
  refine zr_icmp_eq X 807 dL_law_802 (by decide) ⟨by omega, by omega⟩ ⟨by omega, by omega⟩ (fun _ => ?_) (fun f_ => absurd rfl f_)
  refine zr_iload X dL_law_807 rfl ?_
  refine zr_if_ne X 824 dL_law_809 (by decide) ⟨by omega, by omega⟩ (fun _ => ?_) (fun f_ => ?_)
  · refine zr_goto X 1532 dL_law_824 (by decide) ?_
    exact Wx.weak (lo' := loL ad b i none none) ⟨rfl, rfl, rfl, rfl, rfl, rfl, trivial⟩ (kk _ hS')
  · have h2 := h2 f_
    refine zr_aloadn X dL_law_812 rfl ?_
    refine zr_iconst X dL_law_813 ?_
    refine zr_laldw X K o50 dL_law_814 ?_
    rw [h2]
    refine zr_iload X dL_law_815 rfl ?_
    refine zr_i2lw X dL_law_817 ?_
    refine zr_lcmpw (z := 0) X dL_law_818 (lcmp_0 rfl) ?_
    refine zr_if_eq X 824 dL_law_819 (by decide) rg0 (fun _ => ?_) (fun f_ => absurd rfl f_)
    refine zr_goto X 1532 dL_law_824 (by decide) ?_
    exact Wx.weak (lo' := loL ad b i none none) ⟨rfl, rfl, rfl, rfl, rfl, rfl, trivial⟩ (kk _ hS')

set_option maxHeartbeats 4000000 in
set_option maxRecDepth 100000 in
theorem law_utilization (Z : LAt l p s m args meth c D cs ad A b L xs) (S : SIM σ) (hi : 0 ≤ i ∧ i + 4 ≤ L) (hk : k + 8 ≤ 601024 ∧ n + 48 ≤ 7293034) (kk : ∀ υ : Mem, SIM υ → LW p l e s m args below meth c D cs ad A Q (k + 8) (n + 48) υ 1532 (loL ad b i none none) []) : LW p l e s m args below meth c D cs ad A Q k n σ 827 (loL ad b i none none) [] := by
  obtain ⟨X, K, hZ, hA, hX, hbl, hbA, hL, hl⟩ := Z
  have hap := K.2.1
  refine zr_aloadn X dL_law_827 rfl ?_
  refine zr_aload X dL_law_828 rfl ?_
  refine zr_lawS X K hZ hA (As := [(.ref (ad (3, 7))), (.ref (ad (5, 1)))]) (st := []) (w_utilization l D cs ad hap (σ := σ) (Post := PF_utilization σ) (XP := XF_utilization σ) (fun sz' => c_X6_utilization l D cs ad (ap_F hap) hl S.1 sz') g45_utilization x_utilization) tw_553 tw_554 tw_0 tw_555 dc_L_utilization rfl rfl (Nat.le_of_ble_eq_true rfl) ⟨⟨Nat.le_of_ble_eq_true rfl, Nat.le_of_ble_eq_true rfl⟩, hk.1, hk.2⟩ dL_law_830 (fun ez τ hp => ?_)
  have hM := mOk_cong (wP_4d hp g45_utilization) S.ok
  refine zr_istore X dL_law_833 (by decide) rfl ?_
  refine zr_aloadn X dL_law_835 rfl ?_
  refine zr_mcallD X K (As := []) (st := []) (Post := PM_utilization τ) (c_X7_utilization l D cs ad (ap_M hap) hM) ⟨tw_887, tw_888, tw_889, tw_8, tw_890⟩ dc_LM_utilization rfl rfl rfl (Nat.le_of_ble_eq_true rfl) ⟨⟨Nat.le_of_ble_eq_true rfl, Nat.le_of_ble_eq_true rfl⟩, hk.1, hk.2⟩ dL_law_836 m4_utilization (fun bz υ hq => ?_)
  obtain ⟨hS', h1, h2, h3⟩ := st_utilization S hp hq
  refine zr_dstore X dL_law_839 (by decide) rfl ?_
  refine zr_aloadn X dL_law_841 rfl ?_
  refine zr_mcallI X K (As := []) (st := []) (rm := rmm 0 0 0) (c_X7_thrown l D cs ad (ap_M hap)) ⟨tw_761, tw_762, tw_763, tw_8, tw_764⟩ dc_LM_thrown rfl rfl rfl (Nat.le_of_ble_eq_true rfl) ⟨rfl, rfl⟩ ⟨⟨Nat.le_of_ble_eq_true rfl, Nat.le_of_ble_eq_true rfl⟩, hk.1, hk.2⟩ dL_law_842 (fun z τ h => by rw [h.1]; exact fun _ _ _ => rfl) (fun z_ τ_ hz_ => ?_)
  obtain ⟨e_, hz_⟩ := hz_
  subst e_
  subst z_
  rw [h1]
  refine zr_iload X dL_law_845 rfl ?_
  refine zr_icmp_eq X 852 dL_law_847 (by decide) ⟨by omega, by omega⟩ ⟨by omega, by omega⟩ (fun _ => ?_) (fun f_ => absurd rfl f_)
  refine zr_iload X dL_law_852 rfl ?_
  refine zr_if_ne X 889 dL_law_854 (by decide) ⟨by omega, by omega⟩ (fun _ => ?_) (fun f_ => ?_)
  · refine zr_goto X 1532 dL_law_889 (by decide) ?_
    exact Wx.weak (lo' := loL ad b i none none) ⟨rfl, rfl, rfl, rfl, rfl, rfl, trivial⟩ (kk _ hS')
  · have h2 := h2 f_
    refine zr_aload X dL_law_857 rfl ?_
    refine zr_iconst X dL_law_859 ?_
    refine zr_daldw X K o51 dL_law_860 ?_
    rw [h2, Int.toNat_natCast, UInt64.ofNat_toNat]
    refine zr_dload X dL_law_861 rfl ?_
    obtain ⟨cz, hcz⟩ : ∃ cz : Int32, cz = Op.cmpValue (FP.dcmp bz bz) .l := ⟨_, rfl⟩
    have hcr := iI_rg cz
    have hcd : Op.cmpValue (FP.dcmp bz bz) .l = iI cz.toInt := by rw [iI_self]; exact hcz.symm
    refine zr_dcmp X dL_law_863 hcd ?_
    refine zr_if_eq X 889 dL_law_864 (by decide) hcr (fun t1 => ?_) (fun f1 => ?_)
    · refine zr_goto X 1532 dL_law_889 (by decide) ?_
      exact Wx.weak (lo' := loL ad b i none none) ⟨rfl, rfl, rfl, rfl, rfl, rfl, trivial⟩ (kk _ hS')
    · skip
      refine zr_aload X dL_law_867 rfl ?_
      refine zr_iconst X dL_law_869 ?_
      refine zr_daldw X K o51 dL_law_870 ?_
      rw [h2, Int.toNat_natCast, UInt64.ofNat_toNat]
      refine zr_aload X dL_law_871 rfl ?_
      refine zr_iconst X dL_law_873 ?_
      refine zr_daldw X K o51 dL_law_874 ?_
      rw [h2, Int.toNat_natCast, UInt64.ofNat_toNat]
      refine zr_dcmp X dL_law_875 hcd ?_
      refine zr_if_eq X 887 dL_law_876 (by decide) hcr (fun t2 => absurd t2 f1) (fun _ => ?_)
      refine zr_dload X dL_law_879 rfl ?_
      refine zr_dload X dL_law_881 rfl ?_
      refine zr_dcmp X dL_law_883 hcd ?_
      refine zr_if_ne X 889 dL_law_884 (by decide) hcr (fun _ => ?_) (fun f3 => absurd f3 f1)
      refine zr_goto X 1532 dL_law_889 (by decide) ?_
      exact Wx.weak (lo' := loL ad b i none none) ⟨rfl, rfl, rfl, rfl, rfl, rfl, trivial⟩ (kk _ hS')

set_option maxHeartbeats 4000000 in
set_option maxRecDepth 100000 in
theorem law_leastFlow (Z : LAt l p s m args meth c D cs ad A b L xs) (S : SIM σ) (hi : 0 ≤ i ∧ i + 4 ≤ L) (hk : k + 8 ≤ 601024 ∧ n + 48 ≤ 7293034) (kk : ∀ υ : Mem, SIM υ → LW p l e s m args below meth c D cs ad A Q (k + 8) (n + 48) υ 1532 (loL ad b i none none) []) : LW p l e s m args below meth c D cs ad A Q k n σ 892 (loL ad b i none none) [] := by
  obtain ⟨X, K, hZ, hA, hX, hbl, hbA, hL, hl⟩ := Z
  have hap := K.2.1
  refine zr_aloadn X dL_law_892 rfl ?_
  refine zr_aloadn X dL_law_893 rfl ?_
  refine zr_iload X dL_law_894 rfl ?_
  refine zr_iconst X dL_law_896 ?_
  refine zr_iadd X dL_law_897 ?_
  refine zr_sld X hX hbl hbA ⟨by omega, by omega⟩ (by omega) dL_law_898 ?_
  refine zr_aloadn X dL_law_899 rfl ?_
  refine zr_lawS X K hZ hA (As := [(.ref (ad (3, 7))), (jI ((xs (i + 1).toNat).toInt)), (.ref (ad (5, 0)))]) (st := []) (w_leastFlow l D cs ad hap (σ := σ) (Post := PF_leastFlow σ ((xs (i + 1).toNat).toInt)) (XP := XF_leastFlow σ ((xs (i + 1).toNat).toInt)) (fun sz' => c_X6_leastFlow l D cs ad (ap_F hap) hl S.1 (iI_rg _) sz') g45_leastFlow x_leastFlow) tw_564 tw_565 tw_0 tw_566 dc_L_leastFlow rfl rfl (Nat.le_of_ble_eq_true rfl) ⟨⟨Nat.le_of_ble_eq_true rfl, Nat.le_of_ble_eq_true rfl⟩, hk.1, hk.2⟩ dL_law_900 (fun ez τ hp => ?_)
  have hM := mOk_cong (wP_4 hp g45_leastFlow) S.ok
  refine zr_istore X dL_law_903 (by decide) rfl ?_
  refine zr_aloadn X dL_law_905 rfl ?_
  refine zr_aloadn X dL_law_906 rfl ?_
  refine zr_iload X dL_law_907 rfl ?_
  refine zr_iconst X dL_law_909 ?_
  refine zr_iadd X dL_law_910 ?_
  refine zr_sld X hX hbl hbA ⟨by omega, by omega⟩ (by omega) dL_law_911 ?_
  refine zr_mcallI X K (As := [(jI ((xs (i + 1).toNat).toInt))]) (st := []) (Post := PM_leastFlow τ ((xs (i + 1).toNat).toInt)) (rm := rmm 4 0 0) (c_X7_leastFlow l D cs ad (ap_M hap) hM (iI_rg _)) ⟨tw_891, tw_892, tw_893, tw_8, tw_894⟩ dc_LM_leastFlow rfl rfl rfl (Nat.le_of_ble_eq_true rfl) ⟨rfl, rfl⟩ ⟨⟨Nat.le_of_ble_eq_true rfl, Nat.le_of_ble_eq_true rfl⟩, hk.1, hk.2⟩ dL_law_912 m4_leastFlow (fun bz υ hq => ?_)
  obtain ⟨hS', h1, h2, h3⟩ := st_leastFlow S hp hq
  refine zr_istore X dL_law_915 (by decide) rfl ?_
  refine zr_aloadn X dL_law_917 rfl ?_
  refine zr_mcallI X K (As := []) (st := []) (rm := rmm 0 0 0) (c_X7_thrown l D cs ad (ap_M hap)) ⟨tw_761, tw_762, tw_763, tw_8, tw_764⟩ dc_LM_thrown rfl rfl rfl (Nat.le_of_ble_eq_true rfl) ⟨rfl, rfl⟩ ⟨⟨Nat.le_of_ble_eq_true rfl, Nat.le_of_ble_eq_true rfl⟩, hk.1, hk.2⟩ dL_law_918 (fun z τ h => by rw [h.1]; exact fun _ _ _ => rfl) (fun z_ τ_ hz_ => ?_)
  obtain ⟨e_, hz_⟩ := hz_
  subst e_
  subst z_
  rw [h1]
  refine zr_iload X dL_law_921 rfl ?_
  refine zr_icmp_eq X 928 dL_law_923 (by decide) ⟨by omega, by omega⟩ ⟨by omega, by omega⟩ (fun _ => ?_) (fun f_ => absurd rfl f_)
  refine zr_iload X dL_law_928 rfl ?_
  refine zr_if_ne X 945 dL_law_930 (by decide) ⟨by omega, by omega⟩ (fun _ => ?_) (fun f_ => ?_)
  · refine zr_goto X 1532 dL_law_945 (by decide) ?_
    exact Wx.weak (lo' := loL ad b i none none) ⟨rfl, rfl, rfl, rfl, rfl, rfl, trivial⟩ (kk _ hS')
  · have h2 := h2 f_
    refine zr_aloadn X dL_law_933 rfl ?_
    refine zr_iconst X dL_law_934 ?_
    refine zr_laldw X K o50 dL_law_935 ?_
    rw [h2]
    refine zr_iload X dL_law_936 rfl ?_
    refine zr_i2lw X dL_law_938 ?_
    refine zr_lcmpw (z := 0) X dL_law_939 (lcmp_0 rfl) ?_
    refine zr_if_eq X 945 dL_law_940 (by decide) rg0 (fun _ => ?_) (fun f_ => absurd rfl f_)
    refine zr_goto X 1532 dL_law_945 (by decide) ?_
    exact Wx.weak (lo' := loL ad b i none none) ⟨rfl, rfl, rfl, rfl, rfl, rfl, trivial⟩ (kk _ hS')

set_option maxHeartbeats 4000000 in
set_option maxRecDepth 100000 in
theorem law_greatestFlow (Z : LAt l p s m args meth c D cs ad A b L xs) (S : SIM σ) (hi : 0 ≤ i ∧ i + 4 ≤ L) (hk : k + 8 ≤ 601024 ∧ n + 48 ≤ 7293034) (kk : ∀ υ : Mem, SIM υ → LW p l e s m args below meth c D cs ad A Q (k + 8) (n + 48) υ 1532 (loL ad b i none none) []) : LW p l e s m args below meth c D cs ad A Q k n σ 948 (loL ad b i none none) [] := by
  obtain ⟨X, K, hZ, hA, hX, hbl, hbA, hL, hl⟩ := Z
  have hap := K.2.1
  refine zr_aloadn X dL_law_948 rfl ?_
  refine zr_aloadn X dL_law_949 rfl ?_
  refine zr_iload X dL_law_950 rfl ?_
  refine zr_iconst X dL_law_952 ?_
  refine zr_iadd X dL_law_953 ?_
  refine zr_sld X hX hbl hbA ⟨by omega, by omega⟩ (by omega) dL_law_954 ?_
  refine zr_aloadn X dL_law_955 rfl ?_
  refine zr_lawS X K hZ hA (As := [(.ref (ad (3, 7))), (jI ((xs (i + 1).toNat).toInt)), (.ref (ad (5, 0)))]) (st := []) (w_greatestFlow l D cs ad hap (σ := σ) (Post := PF_greatestFlow σ ((xs (i + 1).toNat).toInt)) (XP := XF_greatestFlow σ ((xs (i + 1).toNat).toInt)) (fun sz' => c_X6_greatestFlow l D cs ad (ap_F hap) hl S.1 (iI_rg _) sz') g45_greatestFlow x_greatestFlow) tw_582 tw_583 tw_0 tw_584 dc_L_greatestFlow rfl rfl (Nat.le_of_ble_eq_true rfl) ⟨⟨Nat.le_of_ble_eq_true rfl, Nat.le_of_ble_eq_true rfl⟩, hk.1, hk.2⟩ dL_law_956 (fun ez τ hp => ?_)
  have hM := mOk_cong (wP_4 hp g45_greatestFlow) S.ok
  refine zr_istore X dL_law_959 (by decide) rfl ?_
  refine zr_aloadn X dL_law_961 rfl ?_
  refine zr_aloadn X dL_law_962 rfl ?_
  refine zr_iload X dL_law_963 rfl ?_
  refine zr_iconst X dL_law_965 ?_
  refine zr_iadd X dL_law_966 ?_
  refine zr_sld X hX hbl hbA ⟨by omega, by omega⟩ (by omega) dL_law_967 ?_
  refine zr_mcallI X K (As := [(jI ((xs (i + 1).toNat).toInt))]) (st := []) (Post := PM_greatestFlow τ ((xs (i + 1).toNat).toInt)) (rm := rmm 4 0 0) (c_X7_greatestFlow l D cs ad (ap_M hap) hM (iI_rg _)) ⟨tw_895, tw_896, tw_897, tw_8, tw_898⟩ dc_LM_greatestFlow rfl rfl rfl (Nat.le_of_ble_eq_true rfl) ⟨rfl, rfl⟩ ⟨⟨Nat.le_of_ble_eq_true rfl, Nat.le_of_ble_eq_true rfl⟩, hk.1, hk.2⟩ dL_law_968 m4_greatestFlow (fun bz υ hq => ?_)
  obtain ⟨hS', h1, h2, h3⟩ := st_greatestFlow S hp hq
  refine zr_istore X dL_law_971 (by decide) rfl ?_
  refine zr_aloadn X dL_law_973 rfl ?_
  refine zr_mcallI X K (As := []) (st := []) (rm := rmm 0 0 0) (c_X7_thrown l D cs ad (ap_M hap)) ⟨tw_761, tw_762, tw_763, tw_8, tw_764⟩ dc_LM_thrown rfl rfl rfl (Nat.le_of_ble_eq_true rfl) ⟨rfl, rfl⟩ ⟨⟨Nat.le_of_ble_eq_true rfl, Nat.le_of_ble_eq_true rfl⟩, hk.1, hk.2⟩ dL_law_974 (fun z τ h => by rw [h.1]; exact fun _ _ _ => rfl) (fun z_ τ_ hz_ => ?_)
  obtain ⟨e_, hz_⟩ := hz_
  subst e_
  subst z_
  rw [h1]
  refine zr_iload X dL_law_977 rfl ?_
  refine zr_icmp_eq X 984 dL_law_979 (by decide) ⟨by omega, by omega⟩ ⟨by omega, by omega⟩ (fun _ => ?_) (fun f_ => absurd rfl f_)
  refine zr_iload X dL_law_984 rfl ?_
  refine zr_if_ne X 1001 dL_law_986 (by decide) ⟨by omega, by omega⟩ (fun _ => ?_) (fun f_ => ?_)
  · refine zr_goto X 1532 dL_law_1001 (by decide) ?_
    exact Wx.weak (lo' := loL ad b i none none) ⟨rfl, rfl, rfl, rfl, rfl, rfl, trivial⟩ (kk _ hS')
  · have h2 := h2 f_
    refine zr_aloadn X dL_law_989 rfl ?_
    refine zr_iconst X dL_law_990 ?_
    refine zr_laldw X K o50 dL_law_991 ?_
    rw [h2]
    refine zr_iload X dL_law_992 rfl ?_
    refine zr_i2lw X dL_law_994 ?_
    refine zr_lcmpw (z := 0) X dL_law_995 (lcmp_0 rfl) ?_
    refine zr_if_eq X 1001 dL_law_996 (by decide) rg0 (fun _ => ?_) (fun f_ => absurd rfl f_)
    refine zr_goto X 1532 dL_law_1001 (by decide) ?_
    exact Wx.weak (lo' := loL ad b i none none) ⟨rfl, rfl, rfl, rfl, rfl, rfl, trivial⟩ (kk _ hS')

set_option maxHeartbeats 4000000 in
set_option maxRecDepth 100000 in
theorem law_cutCapacity (Z : LAt l p s m args meth c D cs ad A b L xs) (S : SIM σ) (hi : 0 ≤ i ∧ i + 4 ≤ L) (hk : k + 8 ≤ 601024 ∧ n + 48 ≤ 7293034) (kk : ∀ υ : Mem, SIM υ → LW p l e s m args below meth c D cs ad A Q (k + 8) (n + 48) υ 1532 (loL ad b i none none) []) : LW p l e s m args below meth c D cs ad A Q k n σ 1004 (loL ad b i none none) [] := by
  obtain ⟨X, K, hZ, hA, hX, hbl, hbA, hL, hl⟩ := Z
  have hap := K.2.1
  refine zr_aloadn X dL_law_1004 rfl ?_
  refine zr_aloadn X dL_law_1005 rfl ?_
  refine zr_iload X dL_law_1006 rfl ?_
  refine zr_iconst X dL_law_1008 ?_
  refine zr_iadd X dL_law_1009 ?_
  refine zr_sld X hX hbl hbA ⟨by omega, by omega⟩ (by omega) dL_law_1010 ?_
  refine zr_aloadn X dL_law_1011 rfl ?_
  refine zr_lawS X K hZ hA (As := [(.ref (ad (3, 7))), (jI ((xs (i + 1).toNat).toInt)), (.ref (ad (5, 0)))]) (st := []) (w_cutCapacity l D cs ad hap (σ := σ) (Post := PF_cutCapacity σ ((xs (i + 1).toNat).toInt)) (XP := XF_cutCapacity σ ((xs (i + 1).toNat).toInt)) (fun sz' => c_X6_cutCapacity l D cs ad (ap_F hap) hl S.1 (iI_rg _) sz') g45_cutCapacity x_cutCapacity) tw_590 tw_591 tw_0 tw_592 dc_L_cutCapacity rfl rfl (Nat.le_of_ble_eq_true rfl) ⟨⟨Nat.le_of_ble_eq_true rfl, Nat.le_of_ble_eq_true rfl⟩, hk.1, hk.2⟩ dL_law_1012 (fun ez τ hp => ?_)
  have hM := mOk_cong (wP_4 hp g45_cutCapacity) S.ok
  refine zr_istore X dL_law_1015 (by decide) rfl ?_
  refine zr_aloadn X dL_law_1017 rfl ?_
  refine zr_aloadn X dL_law_1018 rfl ?_
  refine zr_iload X dL_law_1019 rfl ?_
  refine zr_iconst X dL_law_1021 ?_
  refine zr_iadd X dL_law_1022 ?_
  refine zr_sld X hX hbl hbA ⟨by omega, by omega⟩ (by omega) dL_law_1023 ?_
  refine zr_mcallI X K (As := [(jI ((xs (i + 1).toNat).toInt))]) (st := []) (Post := PM_cutCapacity τ ((xs (i + 1).toNat).toInt)) (rm := rmm 2 0 0) (c_X7_cutCapacity l D cs ad (ap_M hap) hM (iI_rg _)) ⟨tw_899, tw_900, tw_901, tw_8, tw_902⟩ dc_LM_cutCapacity rfl rfl rfl (Nat.le_of_ble_eq_true rfl) ⟨rfl, rfl⟩ ⟨⟨Nat.le_of_ble_eq_true rfl, Nat.le_of_ble_eq_true rfl⟩, hk.1, hk.2⟩ dL_law_1024 m4_cutCapacity (fun bz υ hq => ?_)
  obtain ⟨hS', h1, h2, h3⟩ := st_cutCapacity S hp hq
  refine zr_istore X dL_law_1027 (by decide) rfl ?_
  refine zr_aloadn X dL_law_1029 rfl ?_
  refine zr_mcallI X K (As := []) (st := []) (rm := rmm 0 0 0) (c_X7_thrown l D cs ad (ap_M hap)) ⟨tw_761, tw_762, tw_763, tw_8, tw_764⟩ dc_LM_thrown rfl rfl rfl (Nat.le_of_ble_eq_true rfl) ⟨rfl, rfl⟩ ⟨⟨Nat.le_of_ble_eq_true rfl, Nat.le_of_ble_eq_true rfl⟩, hk.1, hk.2⟩ dL_law_1030 (fun z τ h => by rw [h.1]; exact fun _ _ _ => rfl) (fun z_ τ_ hz_ => ?_)
  obtain ⟨e_, hz_⟩ := hz_
  subst e_
  subst z_
  rw [h1]
  refine zr_iload X dL_law_1033 rfl ?_
  refine zr_icmp_eq X 1040 dL_law_1035 (by decide) ⟨by omega, by omega⟩ ⟨by omega, by omega⟩ (fun _ => ?_) (fun f_ => absurd rfl f_)
  refine zr_iload X dL_law_1040 rfl ?_
  refine zr_if_ne X 1057 dL_law_1042 (by decide) ⟨by omega, by omega⟩ (fun _ => ?_) (fun f_ => ?_)
  · refine zr_goto X 1532 dL_law_1057 (by decide) ?_
    exact Wx.weak (lo' := loL ad b i none none) ⟨rfl, rfl, rfl, rfl, rfl, rfl, trivial⟩ (kk _ hS')
  · have h2 := h2 f_
    refine zr_aloadn X dL_law_1045 rfl ?_
    refine zr_iconst X dL_law_1046 ?_
    refine zr_laldw X K o50 dL_law_1047 ?_
    rw [h2]
    refine zr_iload X dL_law_1048 rfl ?_
    refine zr_i2lw X dL_law_1050 ?_
    refine zr_lcmpw (z := 0) X dL_law_1051 (lcmp_0 rfl) ?_
    refine zr_if_eq X 1057 dL_law_1052 (by decide) rg0 (fun _ => ?_) (fun f_ => absurd rfl f_)
    refine zr_goto X 1532 dL_law_1057 (by decide) ?_
    exact Wx.weak (lo' := loL ad b i none none) ⟨rfl, rfl, rfl, rfl, rfl, rfl, trivial⟩ (kk _ hS')

set_option maxHeartbeats 4000000 in
set_option maxRecDepth 100000 in
theorem law_smallestCut (Z : LAt l p s m args meth c D cs ad A b L xs) (S : SIM σ) (hi : 0 ≤ i ∧ i + 4 ≤ L) (hk : k + 8 ≤ 601024 ∧ n + 48 ≤ 7293034) (kk : ∀ υ : Mem, SIM υ → LW p l e s m args below meth c D cs ad A Q (k + 8) (n + 48) υ 1532 (loL ad b i none none) []) : LW p l e s m args below meth c D cs ad A Q k n σ 1060 (loL ad b i none none) [] := by
  obtain ⟨X, K, hZ, hA, hX, hbl, hbA, hL, hl⟩ := Z
  have hap := K.2.1
  refine zr_aloadn X dL_law_1060 rfl ?_
  refine zr_aloadn X dL_law_1061 rfl ?_
  refine zr_lawS X K hZ hA (As := [(.ref (ad (3, 7))), (.ref (ad (5, 0)))]) (st := []) (w_smallestCut l D cs ad hap (σ := σ) (Post := PF_smallestCut σ) (XP := XF_smallestCut σ) (fun sz' => c_X6_smallestCut l D cs ad (ap_F hap) hl S.1 sz') g45_smallestCut x_smallestCut) tw_607 tw_608 tw_0 tw_609 dc_L_smallestCut rfl rfl (Nat.le_of_ble_eq_true rfl) ⟨⟨Nat.le_of_ble_eq_true rfl, Nat.le_of_ble_eq_true rfl⟩, hk.1, hk.2⟩ dL_law_1062 (fun ez τ hp => ?_)
  have hM := mOk_cong (wP_4 hp g45_smallestCut) S.ok
  refine zr_istore X dL_law_1065 (by decide) rfl ?_
  refine zr_aloadn X dL_law_1067 rfl ?_
  refine zr_mcallI X K (As := []) (st := []) (Post := PM_smallestCut τ) (rm := rmm 5 0 0) (c_X7_smallestCut l D cs ad (ap_M hap) hM) ⟨tw_911, tw_912, tw_913, tw_8, tw_914⟩ dc_LM_smallestCut rfl rfl rfl (Nat.le_of_ble_eq_true rfl) ⟨rfl, rfl⟩ ⟨⟨Nat.le_of_ble_eq_true rfl, Nat.le_of_ble_eq_true rfl⟩, hk.1, hk.2⟩ dL_law_1068 m4_smallestCut (fun bz υ hq => ?_)
  obtain ⟨hS', h1, h2, h3⟩ := st_smallestCut S hp hq
  refine zr_istore X dL_law_1071 (by decide) rfl ?_
  refine zr_aloadn X dL_law_1073 rfl ?_
  refine zr_mcallI X K (As := []) (st := []) (rm := rmm 0 0 0) (c_X7_thrown l D cs ad (ap_M hap)) ⟨tw_761, tw_762, tw_763, tw_8, tw_764⟩ dc_LM_thrown rfl rfl rfl (Nat.le_of_ble_eq_true rfl) ⟨rfl, rfl⟩ ⟨⟨Nat.le_of_ble_eq_true rfl, Nat.le_of_ble_eq_true rfl⟩, hk.1, hk.2⟩ dL_law_1074 (fun z τ h => by rw [h.1]; exact fun _ _ _ => rfl) (fun z_ τ_ hz_ => ?_)
  obtain ⟨e_, hz_⟩ := hz_
  subst e_
  subst z_
  rw [h1]
  refine zr_iload X dL_law_1077 rfl ?_
  refine zr_icmp_eq X 1084 dL_law_1079 (by decide) ⟨by omega, by omega⟩ ⟨by omega, by omega⟩ (fun _ => ?_) (fun f_ => absurd rfl f_)
  refine zr_iload X dL_law_1084 rfl ?_
  refine zr_if_ne X 1101 dL_law_1086 (by decide) ⟨by omega, by omega⟩ (fun _ => ?_) (fun f_ => ?_)
  · refine zr_goto X 1532 dL_law_1101 (by decide) ?_
    exact Wx.weak (lo' := loL ad b i none none) ⟨rfl, rfl, rfl, rfl, rfl, rfl, trivial⟩ (kk _ hS')
  · have h2 := h2 f_
    refine zr_aloadn X dL_law_1089 rfl ?_
    refine zr_iconst X dL_law_1090 ?_
    refine zr_laldw X K o50 dL_law_1091 ?_
    rw [h2]
    refine zr_iload X dL_law_1092 rfl ?_
    refine zr_i2lw X dL_law_1094 ?_
    refine zr_lcmpw (z := 0) X dL_law_1095 (lcmp_0 rfl) ?_
    refine zr_if_eq X 1101 dL_law_1096 (by decide) rg0 (fun _ => ?_) (fun f_ => absurd rfl f_)
    refine zr_goto X 1532 dL_law_1101 (by decide) ?_
    exact Wx.weak (lo' := loL ad b i none none) ⟨rfl, rfl, rfl, rfl, rfl, rfl, trivial⟩ (kk _ hS')

set_option maxHeartbeats 4000000 in
set_option maxRecDepth 100000 in
theorem law_greatestCut (Z : LAt l p s m args meth c D cs ad A b L xs) (S : SIM σ) (hi : 0 ≤ i ∧ i + 4 ≤ L) (hk : k + 8 ≤ 601024 ∧ n + 48 ≤ 7293034) (kk : ∀ υ : Mem, SIM υ → LW p l e s m args below meth c D cs ad A Q (k + 8) (n + 48) υ 1532 (loL ad b i none none) []) : LW p l e s m args below meth c D cs ad A Q k n σ 1104 (loL ad b i none none) [] := by
  obtain ⟨X, K, hZ, hA, hX, hbl, hbA, hL, hl⟩ := Z
  have hap := K.2.1
  refine zr_aloadn X dL_law_1104 rfl ?_
  refine zr_aloadn X dL_law_1105 rfl ?_
  refine zr_lawS X K hZ hA (As := [(.ref (ad (3, 7))), (.ref (ad (5, 0)))]) (st := []) (w_greatestCut l D cs ad hap (σ := σ) (Post := PF_greatestCut σ) (XP := XF_greatestCut σ) (fun sz' => c_X6_greatestCut l D cs ad (ap_F hap) hl S.1 sz') g45_greatestCut x_greatestCut) tw_614 tw_615 tw_0 tw_616 dc_L_greatestCut rfl rfl (Nat.le_of_ble_eq_true rfl) ⟨⟨Nat.le_of_ble_eq_true rfl, Nat.le_of_ble_eq_true rfl⟩, hk.1, hk.2⟩ dL_law_1106 (fun ez τ hp => ?_)
  have hM := mOk_cong (wP_4 hp g45_greatestCut) S.ok
  refine zr_istore X dL_law_1109 (by decide) rfl ?_
  refine zr_aloadn X dL_law_1111 rfl ?_
  refine zr_mcallI X K (As := []) (st := []) (Post := PM_greatestCut τ) (rm := rmm 5 0 0) (c_X7_greatestCut l D cs ad (ap_M hap) hM) ⟨tw_923, tw_924, tw_925, tw_8, tw_926⟩ dc_LM_greatestCut rfl rfl rfl (Nat.le_of_ble_eq_true rfl) ⟨rfl, rfl⟩ ⟨⟨Nat.le_of_ble_eq_true rfl, Nat.le_of_ble_eq_true rfl⟩, hk.1, hk.2⟩ dL_law_1112 m4_greatestCut (fun bz υ hq => ?_)
  obtain ⟨hS', h1, h2, h3⟩ := st_greatestCut S hp hq
  refine zr_istore X dL_law_1115 (by decide) rfl ?_
  refine zr_aloadn X dL_law_1117 rfl ?_
  refine zr_mcallI X K (As := []) (st := []) (rm := rmm 0 0 0) (c_X7_thrown l D cs ad (ap_M hap)) ⟨tw_761, tw_762, tw_763, tw_8, tw_764⟩ dc_LM_thrown rfl rfl rfl (Nat.le_of_ble_eq_true rfl) ⟨rfl, rfl⟩ ⟨⟨Nat.le_of_ble_eq_true rfl, Nat.le_of_ble_eq_true rfl⟩, hk.1, hk.2⟩ dL_law_1118 (fun z τ h => by rw [h.1]; exact fun _ _ _ => rfl) (fun z_ τ_ hz_ => ?_)
  obtain ⟨e_, hz_⟩ := hz_
  subst e_
  subst z_
  rw [h1]
  refine zr_iload X dL_law_1121 rfl ?_
  refine zr_icmp_eq X 1128 dL_law_1123 (by decide) ⟨by omega, by omega⟩ ⟨by omega, by omega⟩ (fun _ => ?_) (fun f_ => absurd rfl f_)
  refine zr_iload X dL_law_1128 rfl ?_
  refine zr_if_ne X 1145 dL_law_1130 (by decide) ⟨by omega, by omega⟩ (fun _ => ?_) (fun f_ => ?_)
  · refine zr_goto X 1532 dL_law_1145 (by decide) ?_
    exact Wx.weak (lo' := loL ad b i none none) ⟨rfl, rfl, rfl, rfl, rfl, rfl, trivial⟩ (kk _ hS')
  · have h2 := h2 f_
    refine zr_aloadn X dL_law_1133 rfl ?_
    refine zr_iconst X dL_law_1134 ?_
    refine zr_laldw X K o50 dL_law_1135 ?_
    rw [h2]
    refine zr_iload X dL_law_1136 rfl ?_
    refine zr_i2lw X dL_law_1138 ?_
    refine zr_lcmpw (z := 0) X dL_law_1139 (lcmp_0 rfl) ?_
    refine zr_if_eq X 1145 dL_law_1140 (by decide) rg0 (fun _ => ?_) (fun f_ => absurd rfl f_)
    refine zr_goto X 1532 dL_law_1145 (by decide) ?_
    exact Wx.weak (lo' := loL ad b i none none) ⟨rfl, rfl, rfl, rfl, rfl, rfl, trivial⟩ (kk _ hS')

set_option maxHeartbeats 4000000 in
set_option maxRecDepth 100000 in
theorem law_findCuts (Z : LAt l p s m args meth c D cs ad A b L xs) (S : SIM σ) (hi : 0 ≤ i ∧ i + 4 ≤ L) (hk : k + 8 ≤ 601024 ∧ n + 48 ≤ 7293034) (kk : ∀ υ : Mem, SIM υ → LW p l e s m args below meth c D cs ad A Q (k + 8) (n + 48) υ 1532 (loL ad b i none none) []) : LW p l e s m args below meth c D cs ad A Q k n σ 1148 (loL ad b i none none) [] := by
  obtain ⟨X, K, hZ, hA, hX, hbl, hbA, hL, hl⟩ := Z
  have hap := K.2.1
  refine zr_aloadn X dL_law_1148 rfl ?_
  refine zr_aloadn X dL_law_1149 rfl ?_
  refine zr_lawS X K hZ hA (As := [(.ref (ad (3, 7))), (.ref (ad (5, 0)))]) (st := []) (w_findCuts l D cs ad hap (σ := σ) (Post := PF_findCuts σ) (XP := XF_findCuts σ) (fun sz' => c_X6_findCuts l D cs ad (ap_F hap) hl S.1 sz') g45_findCuts x_findCuts) tw_621 tw_622 tw_0 tw_623 dc_L_findCuts rfl rfl (Nat.le_of_ble_eq_true rfl) ⟨⟨Nat.le_of_ble_eq_true rfl, Nat.le_of_ble_eq_true rfl⟩, hk.1, hk.2⟩ dL_law_1150 (fun ez τ hp => ?_)
  have hM := mOk_cong (wP_4 hp g45_findCuts) S.ok
  refine zr_istore X dL_law_1153 (by decide) rfl ?_
  refine zr_aloadn X dL_law_1155 rfl ?_
  refine zr_mcallI X K (As := []) (st := []) (Post := PM_findCuts τ) (rm := rmm 4 0 0) (c_X7_findCuts l D cs ad (ap_M hap) hM) ⟨tw_931, tw_932, tw_933, tw_8, tw_934⟩ dc_LM_findCuts rfl rfl rfl (Nat.le_of_ble_eq_true rfl) ⟨rfl, rfl⟩ ⟨⟨Nat.le_of_ble_eq_true rfl, Nat.le_of_ble_eq_true rfl⟩, hk.1, hk.2⟩ dL_law_1156 m4_findCuts (fun bz υ hq => ?_)
  obtain ⟨hS', h1, h2, h3⟩ := st_findCuts S hp hq
  refine zr_istore X dL_law_1159 (by decide) rfl ?_
  refine zr_aloadn X dL_law_1161 rfl ?_
  refine zr_mcallI X K (As := []) (st := []) (rm := rmm 0 0 0) (c_X7_thrown l D cs ad (ap_M hap)) ⟨tw_761, tw_762, tw_763, tw_8, tw_764⟩ dc_LM_thrown rfl rfl rfl (Nat.le_of_ble_eq_true rfl) ⟨rfl, rfl⟩ ⟨⟨Nat.le_of_ble_eq_true rfl, Nat.le_of_ble_eq_true rfl⟩, hk.1, hk.2⟩ dL_law_1162 (fun z τ h => by rw [h.1]; exact fun _ _ _ => rfl) (fun z_ τ_ hz_ => ?_)
  obtain ⟨e_, hz_⟩ := hz_
  subst e_
  subst z_
  rw [h1]
  refine zr_iload X dL_law_1165 rfl ?_
  refine zr_icmp_eq X 1172 dL_law_1167 (by decide) ⟨by omega, by omega⟩ ⟨by omega, by omega⟩ (fun _ => ?_) (fun f_ => absurd rfl f_)
  refine zr_iload X dL_law_1172 rfl ?_
  refine zr_if_ne X 1189 dL_law_1174 (by decide) ⟨by omega, by omega⟩ (fun _ => ?_) (fun f_ => ?_)
  · refine zr_goto X 1532 dL_law_1189 (by decide) ?_
    exact Wx.weak (lo' := loL ad b i none none) ⟨rfl, rfl, rfl, rfl, rfl, rfl, trivial⟩ (kk _ hS')
  · have h2 := h2 f_
    refine zr_aloadn X dL_law_1177 rfl ?_
    refine zr_iconst X dL_law_1178 ?_
    refine zr_laldw X K o50 dL_law_1179 ?_
    rw [h2]
    refine zr_iload X dL_law_1180 rfl ?_
    refine zr_i2lw X dL_law_1182 ?_
    refine zr_lcmpw (z := 0) X dL_law_1183 (lcmp_0 rfl) ?_
    refine zr_if_eq X 1189 dL_law_1184 (by decide) rg0 (fun _ => ?_) (fun f_ => absurd rfl f_)
    refine zr_goto X 1532 dL_law_1189 (by decide) ?_
    exact Wx.weak (lo' := loL ad b i none none) ⟨rfl, rfl, rfl, rfl, rfl, rfl, trivial⟩ (kk _ hS')

set_option maxHeartbeats 4000000 in
set_option maxRecDepth 100000 in
theorem law_cut (Z : LAt l p s m args meth c D cs ad A b L xs) (S : SIM σ) (hi : 0 ≤ i ∧ i + 4 ≤ L) (hk : k + 8 ≤ 601024 ∧ n + 48 ≤ 7293034) (kk : ∀ υ : Mem, SIM υ → LW p l e s m args below meth c D cs ad A Q (k + 8) (n + 48) υ 1532 (loL ad b i none none) []) : LW p l e s m args below meth c D cs ad A Q k n σ 1192 (loL ad b i none none) [] := by
  obtain ⟨X, K, hZ, hA, hX, hbl, hbA, hL, hl⟩ := Z
  have hap := K.2.1
  refine zr_aloadn X dL_law_1192 rfl ?_
  refine zr_aloadn X dL_law_1193 rfl ?_
  refine zr_iload X dL_law_1194 rfl ?_
  refine zr_iconst X dL_law_1196 ?_
  refine zr_iadd X dL_law_1197 ?_
  refine zr_sld X hX hbl hbA ⟨by omega, by omega⟩ (by omega) dL_law_1198 ?_
  refine zr_aloadn X dL_law_1199 rfl ?_
  refine zr_lawS X K hZ hA (As := [(.ref (ad (3, 7))), (jI ((xs (i + 1).toNat).toInt)), (.ref (ad (5, 0)))]) (st := []) (w_cut l D cs ad hap (σ := σ) (Post := PF_cut σ ((xs (i + 1).toNat).toInt)) (XP := XF_cut σ ((xs (i + 1).toNat).toInt)) (fun sz' => c_X6_cut l D cs ad (ap_F hap) hl S.1 (iI_rg _) sz') g45_cut x_cut) tw_642 tw_643 tw_0 tw_644 dc_L_cut rfl rfl (Nat.le_of_ble_eq_true rfl) ⟨⟨Nat.le_of_ble_eq_true rfl, Nat.le_of_ble_eq_true rfl⟩, hk.1, hk.2⟩ dL_law_1200 (fun ez τ hp => ?_)
  have hM := mOk_cong (wP_4 hp g45_cut) S.ok
  refine zr_istore X dL_law_1203 (by decide) rfl ?_
  refine zr_aloadn X dL_law_1205 rfl ?_
  refine zr_aloadn X dL_law_1206 rfl ?_
  refine zr_iload X dL_law_1207 rfl ?_
  refine zr_iconst X dL_law_1209 ?_
  refine zr_iadd X dL_law_1210 ?_
  refine zr_sld X hX hbl hbA ⟨by omega, by omega⟩ (by omega) dL_law_1211 ?_
  refine zr_mcallI X K (As := [(jI ((xs (i + 1).toNat).toInt))]) (st := []) (Post := PM_cut τ ((xs (i + 1).toNat).toInt)) (rm := rmm 1 0 0) (c_X7_cut l D cs ad (ap_M hap) hM (iI_rg _)) ⟨tw_943, tw_944, tw_945, tw_8, tw_946⟩ dc_LM_cut rfl rfl rfl (Nat.le_of_ble_eq_true rfl) ⟨rfl, rfl⟩ ⟨⟨Nat.le_of_ble_eq_true rfl, Nat.le_of_ble_eq_true rfl⟩, hk.1, hk.2⟩ dL_law_1212 m4_cut (fun bz υ hq => ?_)
  obtain ⟨hS', h1, h2, h3⟩ := st_cut S hp hq
  refine zr_istore X dL_law_1215 (by decide) rfl ?_
  refine zr_aloadn X dL_law_1217 rfl ?_
  refine zr_mcallI X K (As := []) (st := []) (rm := rmm 0 0 0) (c_X7_thrown l D cs ad (ap_M hap)) ⟨tw_761, tw_762, tw_763, tw_8, tw_764⟩ dc_LM_thrown rfl rfl rfl (Nat.le_of_ble_eq_true rfl) ⟨rfl, rfl⟩ ⟨⟨Nat.le_of_ble_eq_true rfl, Nat.le_of_ble_eq_true rfl⟩, hk.1, hk.2⟩ dL_law_1218 (fun z τ h => by rw [h.1]; exact fun _ _ _ => rfl) (fun z_ τ_ hz_ => ?_)
  obtain ⟨e_, hz_⟩ := hz_
  subst e_
  subst z_
  rw [h1]
  refine zr_iload X dL_law_1221 rfl ?_
  refine zr_icmp_eq X 1228 dL_law_1223 (by decide) ⟨by omega, by omega⟩ ⟨by omega, by omega⟩ (fun _ => ?_) (fun f_ => absurd rfl f_)
  refine zr_iload X dL_law_1228 rfl ?_
  refine zr_if_ne X 1245 dL_law_1230 (by decide) ⟨by omega, by omega⟩ (fun _ => ?_) (fun f_ => ?_)
  · refine zr_goto X 1532 dL_law_1245 (by decide) ?_
    exact Wx.weak (lo' := loL ad b i none none) ⟨rfl, rfl, rfl, rfl, rfl, rfl, trivial⟩ (kk _ hS')
  · have h2 := h2 f_
    refine zr_aloadn X dL_law_1233 rfl ?_
    refine zr_iconst X dL_law_1234 ?_
    refine zr_laldw X K o50 dL_law_1235 ?_
    rw [h2]
    refine zr_iload X dL_law_1236 rfl ?_
    refine zr_i2lw X dL_law_1238 ?_
    refine zr_lcmpw (z := 0) X dL_law_1239 (lcmp_0 rfl) ?_
    refine zr_if_eq X 1245 dL_law_1240 (by decide) rg0 (fun _ => ?_) (fun f_ => absurd rfl f_)
    refine zr_goto X 1532 dL_law_1245 (by decide) ?_
    exact Wx.weak (lo' := loL ad b i none none) ⟨rfl, rfl, rfl, rfl, rfl, rfl, trivial⟩ (kk _ hS')

set_option maxHeartbeats 4000000 in
set_option maxRecDepth 100000 in
theorem law_isBottleneck (Z : LAt l p s m args meth c D cs ad A b L xs) (S : SIM σ) (hi : 0 ≤ i ∧ i + 4 ≤ L) (hk : k + 8 ≤ 601024 ∧ n + 48 ≤ 7293034) (kk : ∀ υ : Mem, SIM υ → LW p l e s m args below meth c D cs ad A Q (k + 8) (n + 48) υ 1532 (loL ad b i none none) []) : LW p l e s m args below meth c D cs ad A Q k n σ 1248 (loL ad b i none none) [] := by
  obtain ⟨X, K, hZ, hA, hX, hbl, hbA, hL, hl⟩ := Z
  have hap := K.2.1
  refine zr_aloadn X dL_law_1248 rfl ?_
  refine zr_aloadn X dL_law_1249 rfl ?_
  refine zr_iload X dL_law_1250 rfl ?_
  refine zr_iconst X dL_law_1252 ?_
  refine zr_iadd X dL_law_1253 ?_
  refine zr_sld X hX hbl hbA ⟨by omega, by omega⟩ (by omega) dL_law_1254 ?_
  refine zr_aloadn X dL_law_1255 rfl ?_
  refine zr_lawS X K hZ hA (As := [(.ref (ad (3, 7))), (jI ((xs (i + 1).toNat).toInt)), (.ref (ad (5, 0)))]) (st := []) (w_isBottleneck l D cs ad hap (σ := σ) (Post := PF_isBottleneck σ ((xs (i + 1).toNat).toInt)) (XP := XF_isBottleneck σ ((xs (i + 1).toNat).toInt)) (fun sz' => c_X6_isBottleneck l D cs ad (ap_F hap) hl S.1 (iI_rg _) sz') g45_isBottleneck x_isBottleneck b01_isBottleneck) tw_650 tw_651 tw_0 tw_652 dc_L_isBottleneck rfl rfl (Nat.le_of_ble_eq_true rfl) ⟨⟨Nat.le_of_ble_eq_true rfl, Nat.le_of_ble_eq_true rfl⟩, hk.1, hk.2⟩ dL_law_1256 (fun ez τ hp => ?_)
  have hM := mOk_cong (wP_4 hp g45_isBottleneck) S.ok
  refine zr_istore X dL_law_1259 (by decide) rfl ?_
  refine zr_aloadn X dL_law_1261 rfl ?_
  refine zr_aloadn X dL_law_1262 rfl ?_
  refine zr_iload X dL_law_1263 rfl ?_
  refine zr_iconst X dL_law_1265 ?_
  refine zr_iadd X dL_law_1266 ?_
  refine zr_sld X hX hbl hbA ⟨by omega, by omega⟩ (by omega) dL_law_1267 ?_
  refine zr_mcallI X K (As := [(jI ((xs (i + 1).toNat).toInt))]) (st := []) (Post := PM_isBottleneck τ ((xs (i + 1).toNat).toInt)) (rm := rmm 4 0 0) (c_X7_isBottleneck l D cs ad (ap_M hap) hM (iI_rg _)) ⟨tw_947, tw_948, tw_949, tw_8, tw_950⟩ dc_LM_isBottleneck rfl rfl rfl (Nat.le_of_ble_eq_true rfl) ⟨rfl, rfl⟩ ⟨⟨Nat.le_of_ble_eq_true rfl, Nat.le_of_ble_eq_true rfl⟩, hk.1, hk.2⟩ dL_law_1268 m4_isBottleneck (fun bz υ hq => ?_)
  obtain ⟨hS', h1, h2, h3⟩ := st_isBottleneck S hp hq
  refine zr_istore X dL_law_1271 (by decide) rfl ?_
  refine zr_aloadn X dL_law_1273 rfl ?_
  refine zr_mcallI X K (As := []) (st := []) (rm := rmm 0 0 0) (c_X7_thrown l D cs ad (ap_M hap)) ⟨tw_761, tw_762, tw_763, tw_8, tw_764⟩ dc_LM_thrown rfl rfl rfl (Nat.le_of_ble_eq_true rfl) ⟨rfl, rfl⟩ ⟨⟨Nat.le_of_ble_eq_true rfl, Nat.le_of_ble_eq_true rfl⟩, hk.1, hk.2⟩ dL_law_1274 (fun z τ h => by rw [h.1]; exact fun _ _ _ => rfl) (fun z_ τ_ hz_ => ?_)
  obtain ⟨e_, hz_⟩ := hz_
  subst e_
  subst z_
  rw [h1]
  refine zr_iload X dL_law_1277 rfl ?_
  refine zr_icmp_eq X 1284 dL_law_1279 (by decide) ⟨by omega, by omega⟩ ⟨by omega, by omega⟩ (fun _ => ?_) (fun f_ => absurd rfl f_)
  refine zr_iload X dL_law_1284 rfl ?_
  refine zr_if_ne X 1308 dL_law_1286 (by decide) ⟨by omega, by omega⟩ (fun _ => ?_) (fun f_ => ?_)
  · refine zr_goto X 1532 dL_law_1308 (by decide) ?_
    exact Wx.weak (lo' := loL ad b i none none) ⟨rfl, rfl, rfl, rfl, rfl, rfl, trivial⟩ (kk _ hS')
  · have h2 := h2 f_
    refine zr_aloadn X dL_law_1289 rfl ?_
    refine zr_iconst X dL_law_1290 ?_
    refine zr_laldw X K o50 dL_law_1291 ?_
    rw [h2]
    refine zr_iload X dL_law_1292 rfl ?_
    have hb01 := b2_isBottleneck S hp hq f_
    refine zr_if_eq X 1301 dL_law_1294 (by decide) (by rcases hb01 with g | g <;> rw [g] <;> exact ⟨by decide, by decide⟩) (fun t_ => ?_) (fun g_ => ?_)
    · have hbv : bz = 0 := t_
      refine zr_lconst X dL_law_1301 ?_
      refine zr_lcmpw (z := 0) X dL_law_1302 (lcmp_0 (by rw [hbv]; rfl)) ?_
      refine zr_if_eq X 1308 dL_law_1303 (by decide) rg0 (fun _ => ?_) (fun f_ => absurd rfl f_)
      refine zr_goto X 1532 dL_law_1308 (by decide) ?_
      exact Wx.weak (lo' := loL ad b i none none) ⟨rfl, rfl, rfl, rfl, rfl, rfl, trivial⟩ (kk _ hS')
    · have hbv : bz = 1 := by rcases hb01 with g | g; exact absurd g g_; exact g
      refine zr_lconst X dL_law_1297 ?_
      refine zr_goto X 1302 dL_law_1298 (by decide) ?_
      refine zr_lcmpw (z := 0) X dL_law_1302 (lcmp_0 (by rw [hbv]; rfl)) ?_
      refine zr_if_eq X 1308 dL_law_1303 (by decide) rg0 (fun _ => ?_) (fun f_ => absurd rfl f_)
      refine zr_goto X 1532 dL_law_1308 (by decide) ?_
      exact Wx.weak (lo' := loL ad b i none none) ⟨rfl, rfl, rfl, rfl, rfl, rfl, trivial⟩ (kk _ hS')

set_option maxHeartbeats 4000000 in
set_option maxRecDepth 100000 in
theorem law_isLimiting (Z : LAt l p s m args meth c D cs ad A b L xs) (S : SIM σ) (hi : 0 ≤ i ∧ i + 4 ≤ L) (hk : k + 8 ≤ 601024 ∧ n + 48 ≤ 7293034) (kk : ∀ υ : Mem, SIM υ → LW p l e s m args below meth c D cs ad A Q (k + 8) (n + 48) υ 1532 (loL ad b i none none) []) : LW p l e s m args below meth c D cs ad A Q k n σ 1311 (loL ad b i none none) [] := by
  obtain ⟨X, K, hZ, hA, hX, hbl, hbA, hL, hl⟩ := Z
  have hap := K.2.1
  refine zr_aloadn X dL_law_1311 rfl ?_
  refine zr_aloadn X dL_law_1312 rfl ?_
  refine zr_iload X dL_law_1313 rfl ?_
  refine zr_iconst X dL_law_1315 ?_
  refine zr_iadd X dL_law_1316 ?_
  refine zr_sld X hX hbl hbA ⟨by omega, by omega⟩ (by omega) dL_law_1317 ?_
  refine zr_aloadn X dL_law_1318 rfl ?_
  refine zr_lawS X K hZ hA (As := [(.ref (ad (3, 7))), (jI ((xs (i + 1).toNat).toInt)), (.ref (ad (5, 0)))]) (st := []) (w_isLimiting l D cs ad hap (σ := σ) (Post := PF_isLimiting σ ((xs (i + 1).toNat).toInt)) (XP := XF_isLimiting σ ((xs (i + 1).toNat).toInt)) (fun sz' => c_X6_isLimiting l D cs ad (ap_F hap) hl S.1 (iI_rg _) sz') g45_isLimiting x_isLimiting b01_isLimiting) tw_658 tw_659 tw_0 tw_660 dc_L_isLimiting rfl rfl (Nat.le_of_ble_eq_true rfl) ⟨⟨Nat.le_of_ble_eq_true rfl, Nat.le_of_ble_eq_true rfl⟩, hk.1, hk.2⟩ dL_law_1319 (fun ez τ hp => ?_)
  have hM := mOk_cong (wP_4 hp g45_isLimiting) S.ok
  refine zr_istore X dL_law_1322 (by decide) rfl ?_
  refine zr_aloadn X dL_law_1324 rfl ?_
  refine zr_aloadn X dL_law_1325 rfl ?_
  refine zr_iload X dL_law_1326 rfl ?_
  refine zr_iconst X dL_law_1328 ?_
  refine zr_iadd X dL_law_1329 ?_
  refine zr_sld X hX hbl hbA ⟨by omega, by omega⟩ (by omega) dL_law_1330 ?_
  refine zr_mcallI X K (As := [(jI ((xs (i + 1).toNat).toInt))]) (st := []) (Post := PM_isLimiting τ ((xs (i + 1).toNat).toInt)) (rm := rmm 4 0 0) (c_X7_isLimiting l D cs ad (ap_M hap) hM (iI_rg _)) ⟨tw_951, tw_952, tw_953, tw_8, tw_954⟩ dc_LM_isLimiting rfl rfl rfl (Nat.le_of_ble_eq_true rfl) ⟨rfl, rfl⟩ ⟨⟨Nat.le_of_ble_eq_true rfl, Nat.le_of_ble_eq_true rfl⟩, hk.1, hk.2⟩ dL_law_1331 m4_isLimiting (fun bz υ hq => ?_)
  obtain ⟨hS', h1, h2, h3⟩ := st_isLimiting S hp hq
  refine zr_istore X dL_law_1334 (by decide) rfl ?_
  refine zr_aloadn X dL_law_1336 rfl ?_
  refine zr_mcallI X K (As := []) (st := []) (rm := rmm 0 0 0) (c_X7_thrown l D cs ad (ap_M hap)) ⟨tw_761, tw_762, tw_763, tw_8, tw_764⟩ dc_LM_thrown rfl rfl rfl (Nat.le_of_ble_eq_true rfl) ⟨rfl, rfl⟩ ⟨⟨Nat.le_of_ble_eq_true rfl, Nat.le_of_ble_eq_true rfl⟩, hk.1, hk.2⟩ dL_law_1337 (fun z τ h => by rw [h.1]; exact fun _ _ _ => rfl) (fun z_ τ_ hz_ => ?_)
  obtain ⟨e_, hz_⟩ := hz_
  subst e_
  subst z_
  rw [h1]
  refine zr_iload X dL_law_1340 rfl ?_
  refine zr_icmp_eq X 1347 dL_law_1342 (by decide) ⟨by omega, by omega⟩ ⟨by omega, by omega⟩ (fun _ => ?_) (fun f_ => absurd rfl f_)
  refine zr_iload X dL_law_1347 rfl ?_
  refine zr_if_ne X 1371 dL_law_1349 (by decide) ⟨by omega, by omega⟩ (fun _ => ?_) (fun f_ => ?_)
  · refine zr_goto X 1532 dL_law_1371 (by decide) ?_
    exact Wx.weak (lo' := loL ad b i none none) ⟨rfl, rfl, rfl, rfl, rfl, rfl, trivial⟩ (kk _ hS')
  · have h2 := h2 f_
    refine zr_aloadn X dL_law_1352 rfl ?_
    refine zr_iconst X dL_law_1353 ?_
    refine zr_laldw X K o50 dL_law_1354 ?_
    rw [h2]
    refine zr_iload X dL_law_1355 rfl ?_
    have hb01 := b2_isLimiting S hp hq f_
    refine zr_if_eq X 1364 dL_law_1357 (by decide) (by rcases hb01 with g | g <;> rw [g] <;> exact ⟨by decide, by decide⟩) (fun t_ => ?_) (fun g_ => ?_)
    · have hbv : bz = 0 := t_
      refine zr_lconst X dL_law_1364 ?_
      refine zr_lcmpw (z := 0) X dL_law_1365 (lcmp_0 (by rw [hbv]; rfl)) ?_
      refine zr_if_eq X 1371 dL_law_1366 (by decide) rg0 (fun _ => ?_) (fun f_ => absurd rfl f_)
      refine zr_goto X 1532 dL_law_1371 (by decide) ?_
      exact Wx.weak (lo' := loL ad b i none none) ⟨rfl, rfl, rfl, rfl, rfl, rfl, trivial⟩ (kk _ hS')
    · have hbv : bz = 1 := by rcases hb01 with g | g; exact absurd g g_; exact g
      refine zr_lconst X dL_law_1360 ?_
      refine zr_goto X 1365 dL_law_1361 (by decide) ?_
      refine zr_lcmpw (z := 0) X dL_law_1365 (lcmp_0 (by rw [hbv]; rfl)) ?_
      refine zr_if_eq X 1371 dL_law_1366 (by decide) rg0 (fun _ => ?_) (fun f_ => absurd rfl f_)
      refine zr_goto X 1532 dL_law_1371 (by decide) ?_
      exact Wx.weak (lo' := loL ad b i none none) ⟨rfl, rfl, rfl, rfl, rfl, rfl, trivial⟩ (kk _ hS')

set_option maxHeartbeats 4000000 in
set_option maxRecDepth 100000 in
theorem law_headroom (Z : LAt l p s m args meth c D cs ad A b L xs) (S : SIM σ) (hi : 0 ≤ i ∧ i + 4 ≤ L) (hk : k + 8 ≤ 601024 ∧ n + 48 ≤ 7293034) (kk : ∀ υ : Mem, SIM υ → LW p l e s m args below meth c D cs ad A Q (k + 8) (n + 48) υ 1532 (loL ad b i none none) []) : LW p l e s m args below meth c D cs ad A Q k n σ 1374 (loL ad b i none none) [] := by
  obtain ⟨X, K, hZ, hA, hX, hbl, hbA, hL, hl⟩ := Z
  have hap := K.2.1
  refine zr_aloadn X dL_law_1374 rfl ?_
  refine zr_aloadn X dL_law_1375 rfl ?_
  refine zr_iload X dL_law_1376 rfl ?_
  refine zr_iconst X dL_law_1378 ?_
  refine zr_iadd X dL_law_1379 ?_
  refine zr_sld X hX hbl hbA ⟨by omega, by omega⟩ (by omega) dL_law_1380 ?_
  refine zr_aloadn X dL_law_1381 rfl ?_
  refine zr_lawS X K hZ hA (As := [(.ref (ad (3, 7))), (jI ((xs (i + 1).toNat).toInt)), (.ref (ad (5, 0)))]) (st := []) (w_headroom l D cs ad hap (σ := σ) (Post := PF_headroom σ ((xs (i + 1).toNat).toInt)) (XP := XF_headroom σ ((xs (i + 1).toNat).toInt)) (fun sz' => c_X6_headroom l D cs ad (ap_F hap) hl S.1 (iI_rg _) sz') g45_headroom x_headroom) tw_665 tw_666 tw_0 tw_667 dc_L_headroom rfl rfl (Nat.le_of_ble_eq_true rfl) ⟨⟨Nat.le_of_ble_eq_true rfl, Nat.le_of_ble_eq_true rfl⟩, hk.1, hk.2⟩ dL_law_1382 (fun ez τ hp => ?_)
  have hM := mOk_cong (wP_4 hp g45_headroom) S.ok
  refine zr_istore X dL_law_1385 (by decide) rfl ?_
  refine zr_aloadn X dL_law_1387 rfl ?_
  refine zr_aloadn X dL_law_1388 rfl ?_
  refine zr_iload X dL_law_1389 rfl ?_
  refine zr_iconst X dL_law_1391 ?_
  refine zr_iadd X dL_law_1392 ?_
  refine zr_sld X hX hbl hbA ⟨by omega, by omega⟩ (by omega) dL_law_1393 ?_
  refine zr_mcallI X K (As := [(jI ((xs (i + 1).toNat).toInt))]) (st := []) (Post := PM_headroom τ ((xs (i + 1).toNat).toInt)) (rm := rmm 4 0 0) (c_X7_headroom l D cs ad (ap_M hap) hM (iI_rg _)) ⟨tw_955, tw_956, tw_957, tw_8, tw_958⟩ dc_LM_headroom rfl rfl rfl (Nat.le_of_ble_eq_true rfl) ⟨rfl, rfl⟩ ⟨⟨Nat.le_of_ble_eq_true rfl, Nat.le_of_ble_eq_true rfl⟩, hk.1, hk.2⟩ dL_law_1394 m4_headroom (fun bz υ hq => ?_)
  obtain ⟨hS', h1, h2, h3⟩ := st_headroom S hp hq
  refine zr_istore X dL_law_1397 (by decide) rfl ?_
  refine zr_aloadn X dL_law_1399 rfl ?_
  refine zr_mcallI X K (As := []) (st := []) (rm := rmm 0 0 0) (c_X7_thrown l D cs ad (ap_M hap)) ⟨tw_761, tw_762, tw_763, tw_8, tw_764⟩ dc_LM_thrown rfl rfl rfl (Nat.le_of_ble_eq_true rfl) ⟨rfl, rfl⟩ ⟨⟨Nat.le_of_ble_eq_true rfl, Nat.le_of_ble_eq_true rfl⟩, hk.1, hk.2⟩ dL_law_1400 (fun z τ h => by rw [h.1]; exact fun _ _ _ => rfl) (fun z_ τ_ hz_ => ?_)
  obtain ⟨e_, hz_⟩ := hz_
  subst e_
  subst z_
  rw [h1]
  refine zr_iload X dL_law_1403 rfl ?_
  refine zr_icmp_eq X 1410 dL_law_1405 (by decide) ⟨by omega, by omega⟩ ⟨by omega, by omega⟩ (fun _ => ?_) (fun f_ => absurd rfl f_)
  refine zr_iload X dL_law_1410 rfl ?_
  refine zr_if_ne X 1427 dL_law_1412 (by decide) ⟨by omega, by omega⟩ (fun _ => ?_) (fun f_ => ?_)
  · refine zr_goto X 1532 dL_law_1427 (by decide) ?_
    exact Wx.weak (lo' := loL ad b i none none) ⟨rfl, rfl, rfl, rfl, rfl, rfl, trivial⟩ (kk _ hS')
  · have h2 := h2 f_
    refine zr_aloadn X dL_law_1415 rfl ?_
    refine zr_iconst X dL_law_1416 ?_
    refine zr_laldw X K o50 dL_law_1417 ?_
    rw [h2]
    refine zr_iload X dL_law_1418 rfl ?_
    refine zr_i2lw X dL_law_1420 ?_
    refine zr_lcmpw (z := 0) X dL_law_1421 (lcmp_0 rfl) ?_
    refine zr_if_eq X 1427 dL_law_1422 (by decide) rg0 (fun _ => ?_) (fun f_ => absurd rfl f_)
    refine zr_goto X 1532 dL_law_1427 (by decide) ?_
    exact Wx.weak (lo' := loL ad b i none none) ⟨rfl, rfl, rfl, rfl, rfl, rfl, trivial⟩ (kk _ hS')

set_option maxHeartbeats 4000000 in
set_option maxRecDepth 100000 in
theorem law_push (Z : LAt l p s m args meth c D cs ad A b L xs) (S : SIM σ) (hi : 0 ≤ i ∧ i + 4 ≤ L) (hk : k + 8 ≤ 601024 ∧ n + 48 ≤ 7293034) (kk : ∀ υ : Mem, SIM υ → LW p l e s m args below meth c D cs ad A Q (k + 8) (n + 48) υ 1532 (loL ad b i none none) []) : LW p l e s m args below meth c D cs ad A Q k n σ 1430 (loL ad b i none none) [] := by
  obtain ⟨X, K, hZ, hA, hX, hbl, hbA, hL, hl⟩ := Z
  have hap := K.2.1
  refine zr_aloadn X dL_law_1430 rfl ?_
  refine zr_aloadn X dL_law_1431 rfl ?_
  refine zr_lawS X K hZ hA (As := [(.ref (ad (3, 7))), (.ref (ad (5, 0)))]) (st := []) (w_push l D cs ad hap (σ := σ) (Post := PF_push σ) (XP := XF_push σ) (fun sz' => c_X6_push l D cs ad (ap_F hap) hl S.1 sz') g45_push x_push) tw_673 tw_674 tw_0 tw_675 dc_L_push rfl rfl (Nat.le_of_ble_eq_true rfl) ⟨⟨Nat.le_of_ble_eq_true rfl, Nat.le_of_ble_eq_true rfl⟩, hk.1, hk.2⟩ dL_law_1432 (fun ez τ hp => ?_)
  have hM := mOk_cong (wP_4 hp g45_push) S.ok
  refine zr_istore X dL_law_1435 (by decide) rfl ?_
  refine zr_aloadn X dL_law_1437 rfl ?_
  refine zr_mcallI X K (As := []) (st := []) (Post := PM_push τ) (rm := rmm 1 0 0) (c_X7_push l D cs ad (ap_M hap) hM) ⟨tw_959, tw_960, tw_961, tw_8, tw_962⟩ dc_LM_push rfl rfl rfl (Nat.le_of_ble_eq_true rfl) ⟨rfl, rfl⟩ ⟨⟨Nat.le_of_ble_eq_true rfl, Nat.le_of_ble_eq_true rfl⟩, hk.1, hk.2⟩ dL_law_1438 m4_push (fun bz υ hq => ?_)
  obtain ⟨hS', h1, h2, h3⟩ := st_push S hp hq
  refine zr_istore X dL_law_1441 (by decide) rfl ?_
  refine zr_aloadn X dL_law_1443 rfl ?_
  refine zr_mcallI X K (As := []) (st := []) (rm := rmm 0 0 0) (c_X7_thrown l D cs ad (ap_M hap)) ⟨tw_761, tw_762, tw_763, tw_8, tw_764⟩ dc_LM_thrown rfl rfl rfl (Nat.le_of_ble_eq_true rfl) ⟨rfl, rfl⟩ ⟨⟨Nat.le_of_ble_eq_true rfl, Nat.le_of_ble_eq_true rfl⟩, hk.1, hk.2⟩ dL_law_1444 (fun z τ h => by rw [h.1]; exact fun _ _ _ => rfl) (fun z_ τ_ hz_ => ?_)
  obtain ⟨e_, hz_⟩ := hz_
  subst e_
  subst z_
  rw [h1]
  refine zr_iload X dL_law_1447 rfl ?_
  refine zr_icmp_eq X 1454 dL_law_1449 (by decide) ⟨by omega, by omega⟩ ⟨by omega, by omega⟩ (fun _ => ?_) (fun f_ => absurd rfl f_)
  refine zr_iload X dL_law_1454 rfl ?_
  refine zr_if_ne X 1471 dL_law_1456 (by decide) ⟨by omega, by omega⟩ (fun _ => ?_) (fun f_ => ?_)
  · refine zr_goto X 1532 dL_law_1471 (by decide) ?_
    exact Wx.weak (lo' := loL ad b i none none) ⟨rfl, rfl, rfl, rfl, rfl, rfl, trivial⟩ (kk _ hS')
  · have h2 := h2 f_
    refine zr_aloadn X dL_law_1459 rfl ?_
    refine zr_iconst X dL_law_1460 ?_
    refine zr_laldw X K o50 dL_law_1461 ?_
    rw [h2]
    refine zr_iload X dL_law_1462 rfl ?_
    refine zr_i2lw X dL_law_1464 ?_
    refine zr_lcmpw (z := 0) X dL_law_1465 (lcmp_0 rfl) ?_
    refine zr_if_eq X 1471 dL_law_1466 (by decide) rg0 (fun _ => ?_) (fun f_ => absurd rfl f_)
    refine zr_goto X 1532 dL_law_1471 (by decide) ?_
    exact Wx.weak (lo' := loL ad b i none none) ⟨rfl, rfl, rfl, rfl, rfl, rfl, trivial⟩ (kk _ hS')

set_option maxHeartbeats 4000000 in
set_option maxRecDepth 100000 in
theorem law_pop (Z : LAt l p s m args meth c D cs ad A b L xs) (S : SIM σ) (hi : 0 ≤ i ∧ i + 4 ≤ L) (hk : k + 8 ≤ 601024 ∧ n + 48 ≤ 7293034) (kk : ∀ υ : Mem, SIM υ → LW p l e s m args below meth c D cs ad A Q (k + 8) (n + 48) υ 1532 (loL ad b i none none) []) : LW p l e s m args below meth c D cs ad A Q k n σ 1474 (loL ad b i none none) [] := by
  obtain ⟨X, K, hZ, hA, hX, hbl, hbA, hL, hl⟩ := Z
  have hap := K.2.1
  refine zr_aloadn X dL_law_1474 rfl ?_
  refine zr_aloadn X dL_law_1475 rfl ?_
  refine zr_lawS X K hZ hA (As := [(.ref (ad (3, 7))), (.ref (ad (5, 0)))]) (st := []) (w_pop l D cs ad hap (σ := σ) (Post := PF_pop σ) (XP := XF_pop σ) (fun sz' => c_X6_pop l D cs ad (ap_F hap) hl S.1 sz') g45_pop x_pop) tw_686 tw_687 tw_0 tw_688 dc_L_pop rfl rfl (Nat.le_of_ble_eq_true rfl) ⟨⟨Nat.le_of_ble_eq_true rfl, Nat.le_of_ble_eq_true rfl⟩, hk.1, hk.2⟩ dL_law_1476 (fun ez τ hp => ?_)
  have hM := mOk_cong (wP_4 hp g45_pop) S.ok
  refine zr_istore X dL_law_1479 (by decide) rfl ?_
  refine zr_aloadn X dL_law_1481 rfl ?_
  refine zr_mcallI X K (As := []) (st := []) (Post := PM_pop τ) (rm := rmm 1 0 0) (c_X7_pop l D cs ad (ap_M hap) hM) ⟨tw_963, tw_964, tw_965, tw_8, tw_966⟩ dc_LM_pop rfl rfl rfl (Nat.le_of_ble_eq_true rfl) ⟨rfl, rfl⟩ ⟨⟨Nat.le_of_ble_eq_true rfl, Nat.le_of_ble_eq_true rfl⟩, hk.1, hk.2⟩ dL_law_1482 m4_pop (fun bz υ hq => ?_)
  obtain ⟨hS', h1, h2, h3⟩ := st_pop S hp hq
  refine zr_istore X dL_law_1485 (by decide) rfl ?_
  refine zr_aloadn X dL_law_1487 rfl ?_
  refine zr_mcallI X K (As := []) (st := []) (rm := rmm 0 0 0) (c_X7_thrown l D cs ad (ap_M hap)) ⟨tw_761, tw_762, tw_763, tw_8, tw_764⟩ dc_LM_thrown rfl rfl rfl (Nat.le_of_ble_eq_true rfl) ⟨rfl, rfl⟩ ⟨⟨Nat.le_of_ble_eq_true rfl, Nat.le_of_ble_eq_true rfl⟩, hk.1, hk.2⟩ dL_law_1488 (fun z τ h => by rw [h.1]; exact fun _ _ _ => rfl) (fun z_ τ_ hz_ => ?_)
  obtain ⟨e_, hz_⟩ := hz_
  subst e_
  subst z_
  rw [h1]
  refine zr_iload X dL_law_1491 rfl ?_
  refine zr_icmp_eq X 1498 dL_law_1493 (by decide) ⟨by omega, by omega⟩ ⟨by omega, by omega⟩ (fun _ => ?_) (fun f_ => absurd rfl f_)
  refine zr_iload X dL_law_1498 rfl ?_
  refine zr_if_ne X 1515 dL_law_1500 (by decide) ⟨by omega, by omega⟩ (fun _ => ?_) (fun f_ => ?_)
  · refine zr_goto X 1532 dL_law_1515 (by decide) ?_
    exact Wx.weak (lo' := loL ad b i none none) ⟨rfl, rfl, rfl, rfl, rfl, rfl, trivial⟩ (kk _ hS')
  · have h2 := h2 f_
    refine zr_aloadn X dL_law_1503 rfl ?_
    refine zr_iconst X dL_law_1504 ?_
    refine zr_laldw X K o50 dL_law_1505 ?_
    rw [h2]
    refine zr_iload X dL_law_1506 rfl ?_
    refine zr_i2lw X dL_law_1508 ?_
    refine zr_lcmpw (z := 0) X dL_law_1509 (lcmp_0 rfl) ?_
    refine zr_if_eq X 1515 dL_law_1510 (by decide) rg0 (fun _ => ?_) (fun f_ => absurd rfl f_)
    refine zr_goto X 1532 dL_law_1515 (by decide) ?_
    exact Wx.weak (lo' := loL ad b i none none) ⟨rfl, rfl, rfl, rfl, rfl, rfl, trivial⟩ (kk _ hS')

set_option maxHeartbeats 4000000 in
set_option maxRecDepth 100000 in
theorem law_digest (Z : LAt l p s m args meth c D cs ad A b L xs) (S : SIM σ) (hi : 0 ≤ i ∧ i + 4 ≤ L) (hk : k + 8 ≤ 601024 ∧ n + 48 ≤ 7293034) (kk : ∀ υ : Mem, SIM υ → LW p l e s m args below meth c D cs ad A Q (k) (n) υ 1532 (loL ad b i none none) []) : LW p l e s m args below meth c D cs ad A Q k n σ 1518 (loL ad b i none none) [] := by
  obtain ⟨X, K, hZ, hA, hX, hbl, hbA, hL, hl⟩ := Z
  have hap := K.2.1
  refine zr_aloadn X dL_law_1518 rfl ?_
  refine zr_fcallL X K (As := []) (st := []) (c_X6_digest l D cs ad (ap_F hap) S.1) ⟨tw_224, tw_225, tw_226, tw_1, tw_227⟩ dc_LF_digest rfl rfl rfl (Nat.le_of_ble_eq_true rfl) ⟨⟨Nat.le_of_ble_eq_true rfl, Nat.le_of_ble_eq_true rfl⟩, (show k ≤ 601024 by omega), (show n ≤ 7293034 by omega)⟩ dL_law_1519 (fun z τ h g k_ hg => h.2.1.1 g k_ (by omega)) (fun z τ hp => ?_)
  have hM := mOk_cong (fun j => hp.2.1.1 4 j (by decide)) S.ok
  refine zr_aloadn X dL_law_1522 rfl ?_
  refine zr_mcallL X K (As := []) (st := [(.long (iL z))]) (Post := fun z υ => fq τ υ ∧ υ (4, 1) 0 = 0 ∧ dgM τ z) (c_X7_digest l D cs ad (ap_M hap) hM) ⟨tw_967, tw_968, tw_969, tw_8, tw_970⟩ dc_LM_digest rfl rfl rfl (Nat.le_of_ble_eq_true rfl) ⟨⟨Nat.le_of_ble_eq_true rfl, Nat.le_of_ble_eq_true rfl⟩, (show k ≤ 601024 by omega), (show n ≤ 7293034 by omega)⟩ dL_law_1523 (fun z τ h => fq.g4 h.1) (fun bz υ hq => ?_)
  obtain ⟨hS', h1⟩ := st_digest S hp hq
  refine zr_lcmpw (z := 0) X dL_law_1526 (lcmp_0 (by rw [h1])) ?_
  refine zr_if_eq X 1532 dL_law_1527 (by decide) rg0 (fun _ => ?_) (fun f_ => absurd rfl f_)
  exact Wx.weak (lo' := loL ad b i none none) ⟨rfl, rfl, rfl, rfl, rfl, rfl, trivial⟩ (kk _ hS')

end LAW
