/-! THE REFERENCE: what can be reached -/
/-- a set that is closed under what is left -/
def gcl (m : Nat) (tl hd f b : Int → Int) (X : Int → Bool) : Prop := ∀ a : Int, 0 ≤ a → a < m → (X (tl a) = true → 0 < f a → X (hd a) = true) ∧ (X (hd a) = true → 0 < b a → X (tl a) = true)
abbrev rcl (σ : Mem) (X : Int → Bool) : Prop := gcl (σ (4, 3) 0).toNat (σ (4, 4)) (σ (4, 5)) (σ (4, 16)) (σ (4, 17)) X
def mNet (σ : Mem) : Prop := (0 ≤ σ (4, 2) 0 ∧ σ (4, 2) 0 ≤ 24) ∧ (0 ≤ σ (4, 3) 0 ∧ σ (4, 3) 0 ≤ 80) ∧ ∀ a, 0 ≤ a → a < σ (4, 3) 0 → (0 ≤ σ (4, 4) a ∧ σ (4, 4) a < σ (4, 2) 0) ∧ (0 ≤ σ (4, 5) a ∧ σ (4, 5) a < σ (4, 2) 0) ∧ σ (4, 4) a ≠ σ (4, 5) a
def mRes (σ : Mem) : Prop := ∀ a, 0 ≤ a → a < σ (4, 3) 0 → 0 ≤ σ (4, 16) a ∧ 0 ≤ σ (4, 17) a ∧ σ (4, 16) a + σ (4, 17) a ≤ 200000000
def mkd (σ : Mem) : Int → Bool := fun v => decide (σ (4, 18) v ≠ -1)
theorem mkd_iff {σ : Mem} {v : Int} : mkd σ v = true ↔ σ (4, 18) v ≠ -1 := decide_eq_true_iff
theorem mkd_not {σ : Mem} {v : Int} : ¬ mkd σ v = true ↔ σ (4, 18) v = -1 := by rw [mkd_iff]; exact Decidable.not_not
def parP (σ : Mem) (rk : Int → Int) (v : Int) : Prop := (0 ≤ σ (4, 18) v ∧ σ (4, 18) v / 2 < σ (4, 3) 0) ∧
  ((σ (4, 18) v % 2 = 0 ∧ σ (4, 5) (σ (4, 18) v / 2) = v ∧ 0 < σ (4, 16) (σ (4, 18) v / 2) ∧ mkd σ (σ (4, 4) (σ (4, 18) v / 2)) = true ∧ rk (σ (4, 4) (σ (4, 18) v / 2)) < rk v) ∨
   (σ (4, 18) v % 2 = 1 ∧ σ (4, 4) (σ (4, 18) v / 2) = v ∧ 0 < σ (4, 17) (σ (4, 18) v / 2) ∧ mkd σ (σ (4, 5) (σ (4, 18) v / 2)) = true ∧ rk (σ (4, 5) (σ (4, 18) v / 2)) < rk v))
/-- the tree of what was reached -/
def trT (σ : Mem) (u : Int) (rk : Int → Int) (q : Int) : Prop := σ (4, 18) u = 160 ∧ (∀ v, 0 ≤ v → v < 24 → mkd σ v = true → (0 ≤ rk v ∧ rk v < q) ∧ v < σ (4, 2) 0) ∧ (∀ v, 0 ≤ v → v < 24 → mkd σ v = true → v ≠ u → parP σ rk v) ∧ ∀ X, rcl σ X → X u = true → ∀ v, 0 ≤ v → v < 24 → mkd σ v = true → X v = true
theorem trT.root {σ : Mem} {u q : Int} {rk : Int → Int} (h : trT σ u rk q) : mkd σ u = true := mkd_iff.mpr (by rw [h.1]; decide)
def brI (σ : Mem) (u : Int) (rk : Int → Int) (q : Int) : Prop := trT σ u rk q ∧ (1 ≤ q ∧ q = (ctB (mkd σ) 24 : Int)) ∧ (∀ j, 0 ≤ j → j < q → (0 ≤ σ (4, 19) j ∧ σ (4, 19) j < σ (4, 2) 0) ∧ mkd σ (σ (4, 19) j) = true ∧ rk (σ (4, 19) j) = j) ∧ ∀ v, 0 ≤ v → v < 24 → mkd σ v = true → σ (4, 19) (rk v) = v
def dnA (σ : Mem) (rk : Int → Int) (k : Int) : Prop := ∀ a, 0 ≤ a → a < σ (4, 3) 0 → (mkd σ (σ (4, 4) a) = true → rk (σ (4, 4) a) < k → 0 < σ (4, 16) a → mkd σ (σ (4, 5) a) = true) ∧ (mkd σ (σ (4, 5) a) = true → rk (σ (4, 5) a) < k → 0 < σ (4, 17) a → mkd σ (σ (4, 4) a) = true)
def dnB (σ : Mem) (k i : Int) : Prop := ∀ a, 0 ≤ a → a < i → (σ (4, 4) a = σ (4, 19) k → 0 < σ (4, 16) a → mkd σ (σ (4, 5) a) = true) ∧ (σ (4, 5) a = σ (4, 19) k → 0 < σ (4, 17) a → mkd σ (σ (4, 4) a) = true)
def frR (σ τ : Mem) : Prop := ∀ p : Ix, p ≠ (4, 18) → p ≠ (4, 19) → τ p = σ p
theorem frR.net {σ τ : Mem} (f : frR σ τ) (h : mNet σ) : mNet τ := by
  unfold mNet at h ⊢
  rw [f (4, 2) (by decide) (by decide), f (4, 3) (by decide) (by decide), f (4, 4) (by decide) (by decide), f (4, 5) (by decide) (by decide)]
  exact h
theorem frR.res {σ τ : Mem} (f : frR σ τ) (h : mRes σ) : mRes τ := by
  unfold mRes at h ⊢
  rw [f (4, 3) (by decide) (by decide), f (4, 16) (by decide) (by decide), f (4, 17) (by decide) (by decide)]
  exact h
theorem frR.cl {σ τ : Mem} (f : frR σ τ) {X : Int → Bool} : rcl τ X ↔ rcl σ X := by
  unfold rcl
  rw [f (4, 3) (by decide) (by decide), f (4, 4) (by decide) (by decide), f (4, 5) (by decide) (by decide), f (4, 16) (by decide) (by decide), f (4, 17) (by decide) (by decide)]
/-- the start -/
theorem br_0 {σ υ σ1 ω : Mem} {u : Int} (hN : mNet σ) (hu : 0 ≤ u ∧ u < σ (4, 2) 0) (f : ∀ p : Ix, p ≠ (4, 18) → υ p = σ p) (h : ∀ v, 0 ≤ v → v < 24 → υ (4, 18) v = -1) (e1 : mset υ (4, 18) u 160 = σ1) (e2 : mset σ1 (4, 19) 0 u = ω) : frR σ ω ∧ brI ω u (fun _ => 0) 1 ∧ dnA ω (fun _ => 0) 0 := by
  have hn := hN.1
  have fω : frR σ ω := fun p p1 p2 => by rw [← e2, mset_id p2, ← e1, mset_id p1, f p p1]
  have m18 : ∀ v, ω (4, 18) v = if v = u then 160 else υ (4, 18) v := fun v => by rw [← e2, mset_id (by decide), ← e1, mset_at]
  have mk : ∀ v, 0 ≤ v → v < 24 → (mkd ω v = true ↔ v = u) := fun v v0 v1 => by
    rw [mkd_iff, m18]
    by_cases e : v = u
    · rw [if_pos e]; exact ⟨fun _ => e, fun _ => by decide⟩
    · rw [if_neg e, h v v0 v1]; exact ⟨fun g => absurd rfl g, fun g => absurd g e⟩
  have m19 : ω (4, 19) 0 = u := by rw [← e2, mset_same]
  have e42 : ω (4, 2) = σ (4, 2) := fω _ (by decide) (by decide)
  refine ⟨fω, ⟨⟨by rw [m18, if_pos rfl], fun v v0 v1 g => ⟨by show (0 : Int) ≤ 0 ∧ (0 : Int) < 1; omega, by rw [(mk v v0 v1).mp g, e42]; exact hu.2⟩, fun v v0 v1 g n => absurd ((mk v v0 v1).mp g) n, fun X _ x v v0 v1 g => by rw [(mk v v0 v1).mp g]; exact x⟩, ⟨by decide, ?_⟩, fun j j0 j1 => ?_, fun v v0 v1 g => ?_⟩, fun a a0 a1 => ⟨fun _ g => absurd g (by show ¬ (0 : Int) < 0; omega), fun _ g => absurd g (by show ¬ (0 : Int) < 0; omega)⟩⟩
  · obtain ⟨k, rfl⟩ := nat_of hu.1
    have := ctB_add (p := fun _ => false) (q := mkd ω) (w := k) (by simp) ((mk _ hu.1 (by omega)).mpr rfl) (n := 24) (by omega) (fun v v1 v2 => by
      cases g : mkd ω (v : Int)
      · rfl
      · have := (mk _ (by omega) (by omega)).mp g
        omega)
    have z : ctB (fun _ => false) 24 = 0 := by decide
    omega
  · have : j = 0 := by omega
    subst this
    rw [m19, e42]
    exact ⟨hu, (mk u hu.1 (by omega)).mpr rfl, rfl⟩
  · rw [(mk v v0 v1).mp g]
    exact m19
/-- one more node -/
theorem br_add {ω σ1 τ : Mem} {u q k i y w : Int} {rk : Int → Int} (hN : mNet ω) (h : brI ω u rk q) (hA : dnA ω rk k) (hB : dnB ω k i) (hk : 0 ≤ k ∧ k < q) (hi : 0 ≤ i ∧ i < ω (4, 3) 0) (hy : (y = 2 * i ∧ w = ω (4, 5) i ∧ ω (4, 4) i = ω (4, 19) k ∧ 0 < ω (4, 16) i) ∨ (y = 2 * i + 1 ∧ w = ω (4, 4) i ∧ ω (4, 5) i = ω (4, 19) k ∧ 0 < ω (4, 17) i)) (hw : ¬ mkd ω w = true) (e1 : mset ω (4, 18) w y = σ1) (e2 : mset σ1 (4, 19) q w = τ) : q < 24 ∧ frR ω τ ∧ ∃ rk', brI τ u rk' (q + 1) ∧ dnA τ rk' k ∧ dnB τ k (i + 1) := by
  obtain ⟨⟨t1, t2, t3, t4⟩, ⟨c1, c2⟩, h3, h4⟩ := h
  have hn := hN.1
  have hNi := hN.2.2 i hi.1 hi.2
  have hw0 : 0 ≤ w ∧ w < ω (4, 2) 0 := by
    rcases hy with ⟨-, g, -⟩ | ⟨-, g, -⟩ <;> rw [g]
    · exact hNi.2.1
    · exact hNi.1
  have fω : frR ω τ := fun p p1 p2 => by rw [← e2, mset_id p2, ← e1, mset_id p1]
  have m18 : ∀ v, τ (4, 18) v = if v = w then y else ω (4, 18) v := fun v => by rw [← e2, mset_id (by decide), ← e1, mset_at]
  have m19 : ∀ j, τ (4, 19) j = if j = q then w else ω (4, 19) j := fun j => by rw [← e2, mset_at, ← e1, mset_id (by decide)]
  have hy0 : y ≠ -1 := by omega
  have mk : ∀ v, (mkd τ v = true ↔ v = w ∨ mkd ω v = true) := fun v => by
    rw [mkd_iff, mkd_iff, m18]
    by_cases e : v = w
    · rw [if_pos e]; exact ⟨fun _ => Or.inl e, fun _ => hy0⟩
    · rw [if_neg e]; exact ⟨Or.inr, fun g => g.resolve_left e⟩
  have e2' : τ (4, 2) = ω (4, 2) := fω _ (by decide) (by decide)
  have e3' : τ (4, 3) = ω (4, 3) := fω _ (by decide) (by decide)
  have e4' : τ (4, 4) = ω (4, 4) := fω _ (by decide) (by decide)
  have e5' : τ (4, 5) = ω (4, 5) := fω _ (by decide) (by decide)
  have e16 : τ (4, 16) = ω (4, 16) := fω _ (by decide) (by decide)
  have e17 : τ (4, 17) = ω (4, 17) := fω _ (by decide) (by decide)
  have hct : (ctB (mkd τ) 24 : Int) = q + 1 := by
    obtain ⟨x, rfl⟩ := nat_of hw0.1
    have := ctB_add (p := mkd ω) (q := mkd τ) (w := x) hw ((mk _).mpr (Or.inl rfl)) (n := 24) (by omega) (fun v v1 v2 => by
      have := mk (v : Int)
      cases g : mkd τ (v : Int) <;> cases g2 : mkd ω (v : Int) <;> simp_all
      omega)
    omega
  have hq24 : q < 24 := by
    have := ctB_le (mkd τ) 24
    omega
  have hr := h3 k hk.1 hk.2
  refine ⟨hq24, fω, fun v => if v = w then q else rk v, ⟨⟨by rw [m18, if_neg (fun z : u = w => hw (z ▸ mkd_iff.mpr (by rw [t1]; decide)))]; exact t1, fun v v0 v1 g => ?_, fun v v0 v1 g n => ?_, fun X hX x v v0 v1 g => ?_⟩, ⟨by omega, hct.symm⟩, fun j j0 j1 => ?_, fun v v0 v1 g => ?_⟩, fun a a0 a1 => ?_, fun a a0 a1 => ?_⟩
  · rw [e2']
    by_cases e : v = w
    · simp only [e, if_true]
      exact ⟨⟨by omega, by omega⟩, hw0.2⟩
    · simp only [e, if_false]
      have := t2 v v0 v1 (((mk v).mp g).resolve_left e)
      exact ⟨⟨this.1.1, by omega⟩, this.2⟩
  · unfold parP
    rw [m18, e3', e4', e5', e16, e17]
    by_cases e : v = w
    · rw [if_pos e]
      have hkw : ω (4, 19) k ≠ w := fun z => hw (z ▸ hr.2.1)
      rcases hy with ⟨y1, y2, y3, y4⟩ | ⟨y1, y2, y3, y4⟩
      · have d2 : y / 2 = i := by omega
        rw [d2]
        refine ⟨⟨by omega, hi.2⟩, Or.inl ⟨by omega, by rw [e, y2], y4, (mk _).mpr (Or.inr (by rw [y3]; exact hr.2.1)), ?_⟩⟩
        show (if ω (4, 4) i = w then q else rk (ω (4, 4) i)) < if v = w then q else rk v
        rw [if_pos e, y3, if_neg hkw, hr.2.2]
        exact hk.2
      · have d2 : y / 2 = i := by omega
        rw [d2]
        refine ⟨⟨by omega, hi.2⟩, Or.inr ⟨by omega, by rw [e, y2], y4, (mk _).mpr (Or.inr (by rw [y3]; exact hr.2.1)), ?_⟩⟩
        show (if ω (4, 5) i = w then q else rk (ω (4, 5) i)) < if v = w then q else rk v
        rw [if_pos e, y3, if_neg hkw, hr.2.2]
        exact hk.2
    · rw [if_neg e]
      have gv := ((mk v).mp g).resolve_left e
      have hlt := (t2 v v0 v1 gv).1
      have key : ∀ p, mkd ω p = true → rk p < rk v → mkd τ p = true ∧ (if p = w then q else rk p) < if v = w then q else rk v := fun p p1 p2 => by
        rw [if_neg e, if_neg (fun z : p = w => hw (z ▸ p1))]
        exact ⟨(mk p).mpr (Or.inr p1), p2⟩
      obtain ⟨z1, z2⟩ := t3 v v0 v1 gv n
      refine ⟨z1, z2.imp (fun ⟨a, b, c, d, f⟩ => ⟨a, b, c, key _ d f⟩) (fun ⟨a, b, c, d, f⟩ => ⟨a, b, c, key _ d f⟩)⟩
  · have hX' := fω.cl.mp hX
    rcases (mk v).mp g with e | e
    · have x3 := t4 X hX' x _ hr.1.1 (by omega) hr.2.1
      have hXi := hX' i hi.1 (by omega)
      rw [e]
      rcases hy with ⟨y1, y2, y3, y4⟩ | ⟨y1, y2, y3, y4⟩
      · rw [y2]; exact hXi.1 (by rw [y3]; exact x3) y4
      · rw [y2]; exact hXi.2 (by rw [y3]; exact x3) y4
    · exact t4 X hX' x v v0 v1 e
  · rw [m19, e2']
    by_cases e : j = q
    · rw [if_pos e]
      exact ⟨hw0, (mk w).mpr (Or.inl rfl), by simp only [if_true]; exact e.symm⟩
    · rw [if_neg e]
      have := h3 j j0 (by omega)
      refine ⟨this.1, (mk _).mpr (Or.inr this.2.1), ?_⟩
      show (if ω (4, 19) j = w then q else rk (ω (4, 19) j)) = j
      rw [if_neg (fun z : ω (4, 19) j = w => hw (z ▸ this.2.1))]
      exact this.2.2
  · show τ (4, 19) (if v = w then q else rk v) = v
    rw [m19]
    by_cases e : v = w
    · rw [if_pos e, if_pos rfl]; exact e.symm
    · have gv := ((mk v).mp g).resolve_left e
      have := (t2 v v0 v1 gv).1
      rw [if_neg e, if_neg (by omega)]
      exact h4 v v0 v1 gv
  · rw [e3'] at a1
    rw [e4', e5', e16, e17]
    have old : ∀ p, mkd τ p = true → (if p = w then q else rk p) < k → mkd ω p = true ∧ rk p < k := fun p p1 p2 => by
      by_cases e : p = w
      · rw [if_pos e] at p2; omega
      · rw [if_neg e] at p2; exact ⟨((mk p).mp p1).resolve_left e, p2⟩
    have := hA a a0 a1
    exact ⟨fun g g2 g3 => (mk _).mpr (Or.inr (this.1 (old _ g g2).1 (old _ g g2).2 g3)), fun g g2 g3 => (mk _).mpr (Or.inr (this.2 (old _ g g2).1 (old _ g g2).2 g3))⟩
  · rw [e4', e5', e16, e17, m19, if_neg (by omega)]
    by_cases e : a = i
    · subst e
      rcases hy with ⟨y1, y2, y3, y4⟩ | ⟨y1, y2, y3, y4⟩
      · exact ⟨fun _ _ => (mk _).mpr (Or.inl y2.symm), fun g _ => absurd (y3.trans g.symm) hNi.2.2⟩
      · exact ⟨fun g _ => absurd (g.trans y3.symm) hNi.2.2, fun _ _ => (mk _).mpr (Or.inl y2.symm)⟩
    · have := hB a a0 (by omega)
      exact ⟨fun g g2 => (mk _).mpr (Or.inr (this.1 g g2)), fun g g2 => (mk _).mpr (Or.inr (this.2 g g2))⟩
theorem dn_next {ω : Mem} {u q k : Int} {rk : Int → Int} (hN : mNet ω) (h : brI ω u rk q) (hk : 0 ≤ k ∧ k < q) (hA : dnA ω rk k) (hB : dnB ω k (ω (4, 3) 0)) : dnA ω rk (k + 1) := fun a a0 a1 => by
  have ha := hA a a0 a1
  have hb := hB a a0 a1
  have hn := hN.1
  have hNa := hN.2.2 a a0 a1
  have key : ∀ p, 0 ≤ p → p < 24 → mkd ω p = true → rk p < k + 1 → rk p < k ∨ p = ω (4, 19) k := fun p p0 p1 g g2 => by
    by_cases e : rk p = k
    · have := h.2.2.2 p p0 p1 g
      rw [e] at this
      exact Or.inr this.symm
    · exact Or.inl (by omega)
  exact ⟨fun g g2 g3 => (key _ hNa.1.1 (by omega) g g2).elim (fun z => ha.1 g z g3) (fun z => hb.1 z g3), fun g g2 g3 => (key _ hNa.2.1.1 (by omega) g g2).elim (fun z => ha.2 g z g3) (fun z => hb.2 z g3)⟩
theorem br_end {ω : Mem} {u q k : Int} {rk : Int → Int} (hN : mNet ω) (h : brI ω u rk q) (hk : k = q) (hA : dnA ω rk k) : rcl ω (mkd ω) := fun a a0 a1 => by
  have hn := hN.1
  have hNa := hN.2.2 a a0 (by omega)
  have := hA a a0 (by omega)
  exact ⟨fun g g2 => this.1 g (by have := (h.1.2.1 _ hNa.1.1 (by omega) g).1; omega) g2, fun g g2 => this.2 g (by have := (h.1.2.1 _ hNa.2.1.1 (by omega) g).1; omega) g2⟩
theorem br_q {ω : Mem} {u q : Int} {rk : Int → Int} (h : brI ω u rk q) : q ≤ 24 := by
  have := ctB_le (mkd ω) 24
  have := h.2.1.2
  omega
/-- what reach leaves -/
def rhP (σ τ : Mem) (u : Int) : Prop := frR σ τ ∧ (∃ rk q, trT τ u rk q ∧ q ≤ 24) ∧ rcl τ (mkd τ)
def byP (ω : Mem) (k i y : Int) : Prop := (y = -1 ∧ (ω (4, 4) i = ω (4, 19) k → 0 < ω (4, 16) i → ω (4, 18) (ω (4, 5) i) ≠ -1) ∧ (ω (4, 5) i = ω (4, 19) k → 0 < ω (4, 17) i → ω (4, 18) (ω (4, 4) i) ≠ -1)) ∨ (y = 2 * i ∧ ω (4, 4) i = ω (4, 19) k ∧ 0 < ω (4, 16) i ∧ ω (4, 18) (ω (4, 5) i) = -1) ∨ (y = 2 * i + 1 ∧ ω (4, 5) i = ω (4, 19) k ∧ 0 < ω (4, 17) i ∧ ω (4, 18) (ω (4, 4) i) = -1)
theorem byP_no {ω : Mem} {k i y : Int} (h : byP ω k i y) (e : y = -1) (hi : 0 ≤ i) : (ω (4, 4) i = ω (4, 19) k → 0 < ω (4, 16) i → ω (4, 18) (ω (4, 5) i) ≠ -1) ∧ (ω (4, 5) i = ω (4, 19) k → 0 < ω (4, 17) i → ω (4, 18) (ω (4, 4) i) ≠ -1) := by
  rcases h with g | g | g
  · exact g.2
  · omega
  · omega
theorem br_lt {ω : Mem} {u q w : Int} {rk : Int → Int} (h : brI ω u rk q) (hw : ¬ mkd ω w = true) (h0 : 0 ≤ w ∧ w < 24) : q < 24 := by
  have h1 := br_q h
  have h2 := h.2.1.2
  by_cases e : q < 24
  · exact e
  · obtain ⟨x, rfl⟩ := nat_of h0.1
    exact absurd (ctB_full (p := mkd ω) (n := 24) (by omega) x (by omega)) hw
theorem dn_no {ω : Mem} {k i : Int} (hB : dnB ω k i) (h : (ω (4, 4) i = ω (4, 19) k → 0 < ω (4, 16) i → ω (4, 18) (ω (4, 5) i) ≠ -1) ∧ (ω (4, 5) i = ω (4, 19) k → 0 < ω (4, 17) i → ω (4, 18) (ω (4, 4) i) ≠ -1)) : dnB ω k (i + 1) := fun a a0 a1 => by
  by_cases e : a = i
  · subst e
    exact ⟨fun g g2 => mkd_iff.mpr (h.1 g g2), fun g g2 => mkd_iff.mpr (h.2 g g2)⟩
  · exact hB a a0 (by omega)
theorem zb_rem2 {x : Int} (h : 0 ≤ x ∧ x < 162) : iI x - iI x / iI 2 * iI 2 = iI (x % 2) := by
  obtain ⟨n, rfl⟩ := nat_of h.1
  have h1 : ∀ n : Fin 162, iI (n.val : Int) - iI (n.val : Int) / iI 2 * iI 2 = iI ((n.val : Int) % 2) := by decide +kernel
  exact h1 ⟨n, by omega⟩
theorem zb_div2 {x : Int} (h : 0 ≤ x ∧ x < 162) : iI x / iI 2 = iI (x / 2) := by
  obtain ⟨n, rfl⟩ := nat_of h.1
  have h1 : ∀ n : Fin 162, iI (n.val : Int) / iI 2 = iI ((n.val : Int) / 2) := by decide +kernel
  exact h1 ⟨n, by omega⟩
def rhI (σ ω : Mem) (u : Int) (rk : Int → Int) (q k : Int) : Prop := frR σ ω ∧ brI ω u rk q ∧ (0 ≤ k ∧ k ≤ q) ∧ dnA ω rk k
def cb0 (σ υ : Mem) (i : Int) : Prop := (∀ p : Ix, p ≠ (4, 18) → υ p = σ p) ∧ ∀ v, 0 ≤ v → v < i → υ (4, 18) v = -1
theorem cb_s {σ υ τ : Mem} {i : Int} (h : cb0 σ υ i) (e : mset υ (4, 18) i (-1) = τ) : cb0 σ τ (i + 1) := ⟨fun p hp => by rw [← e, mset_id hp, h.1 p hp], fun v v0 v1 => by
  rw [← e, mset_at]
  by_cases q : v = i
  · rw [if_pos q]
  · rw [if_neg q]; exact h.2 v v0 (by omega)⟩

theorem dc_X7_reach : dcl yX7_reach 2 := ⟨by decide, by decide, by decide +kernel⟩
theorem dc_X7_before : dcl yX7_before 1 := ⟨by decide, by decide, by decide +kernel⟩
theorem dc_X7_fill : dcl yX7_fill 3 := ⟨by decide, by decide, by decide +kernel⟩
theorem dc_X7_empty : dcl yX7_empty 0 := ⟨by decide, by decide, by decide +kernel⟩
theorem dc_X7_maximumNow : dcl yX7_maximumNow 0 := ⟨by decide, by decide, by decide +kernel⟩
theorem dc_X7_maximumIf : dcl yX7_maximumIf 2 := ⟨by decide, by decide, by decide +kernel⟩
theorem dc_X7_look : dcl yX7_look 1 := ⟨by decide, by decide, by decide +kernel⟩
theorem dc_X7_fail : dcl yX7_fail 1 := ⟨by decide, by decide, by decide +kernel⟩
theorem dc_X7_isNode : dcl yX7_isNode 1 := ⟨by decide, by decide, by decide +kernel⟩
theorem dc_X7_isArc : dcl yX7_isArc 1 := ⟨by decide, by decide, by decide +kernel⟩
theorem dc_X7_isCapacity : dcl yX7_isCapacity 1 := ⟨by decide, by decide, by decide +kernel⟩
theorem dc_X7_isIn : dcl yX7_isIn 2 := ⟨by decide, by decide, by decide +kernel⟩
theorem dc_X7_capacityOf : dcl yX7_capacityOf 1 := ⟨by decide, by decide, by decide +kernel⟩
theorem dc_X7_findReached : dcl yX7_findReached 0 := ⟨by decide, by decide, by decide +kernel⟩
theorem dc_X7_smallest : dcl yX7_smallest 0 := ⟨by decide, by decide, by decide +kernel⟩
theorem dc_X7_greatest : dcl yX7_greatest 0 := ⟨by decide, by decide, by decide +kernel⟩
theorem dc_X7_closed : dcl yX7_closed 2 := ⟨by decide, by decide, by decide +kernel⟩
theorem dc_X7_cutBehind : dcl yX7_cutBehind 1 := ⟨by decide, by decide, by decide +kernel⟩

set_option maxHeartbeats 4000000 in
set_option maxRecDepth 100000 in
theorem c_X7_reach (l : Launch) (D : va_G) (cs : Nat → ClassId) (ad : Ix → Nat) (hap : Apart idsM ad) {σ : Mem} (hN : mNet σ) (hR : mRes σ) {u t : Int} (hu : 0 ≤ u ∧ u < σ (4, 2) 0) (ht : 0 ≤ t ∧ t < σ (4, 2) 0) : CI l D cs idsM ad yX7_reach cX7_reach 8 .boolean 0 [(.ref (ad (4, 0))), (jI u), (jI t)] σ (fun z τ => rhP σ τ u ∧ (z = 0 ∨ z = 1) ∧ (z = 1 ↔ mkd τ t = true)) := by
  refine CI.of RX7 hap idsM_nd (by decide) rfl (Nat.le_of_ble_eq_true rfl) ?_
  intro pg ev s0 mi av bl mt cd X K hr
  have hn := hN.1
  have hm := hN.2.1
  refine zr_iconst X dX7_reach_0 ?_
  refine zr_istoren X dX7_reach_1 (by decide) rfl ?_
  have loop_2 : ∀ (n_2 : Nat) (i : Int) (υ : Mem), ((0 ≤ i ∧ i ≤ 24) ∧ cb0 σ υ i) → (24 - i).toNat < n_2 → Wx pg l ev (rmm 0 0 0) s0 mi av bl mt cd D cs idsM ad (Rg idsM ad) s0.heap 8 (MQ bl (qI D cs idsM ad ((fun z τ => rhP σ τ u ∧ (z = 0 ∨ z = 1) ∧ (z = 1 ↔ mkd τ t = true)))) av s0 0 0 (Rg idsM ad)) 0 0 υ 2 [some (.ref (ad (4, 0))), some (jI u), some (jI t), some (jI i), none, none, none, none] [] := by
    intro n_2
    induction n_2 with
    | zero => exact fun i υ hinv hn => absurd hn (Nat.not_lt_zero _)
    | succ n_2 ih_2 =>
      intro i υ hI_2 hn_2
      have hi0 := hI_2.1
      refine zr_iloadn X dX7_reach_2 rfl ?_
      refine zr_bipush X dX7_reach_3 rfl ?_
      refine zr_icmp_ge X 21 dX7_reach_5 (by decide) ⟨by omega, by omega⟩ ⟨by omega, by omega⟩ (fun t_5 => ?_) (fun f_5 => ?_)
      · refine zr_aloadn X dX7_reach_21 rfl ?_
        refine zr_get X K (C := RX7) (T := TX7) (N := 20) (k := 17) mM_0 rfl rfl ti_7 (by decide) rfl tw_717 rfl dX7_reach_22 ?_
        refine zr_iloadn X dX7_reach_25 rfl ?_
        refine zr_sipush X dX7_reach_26 rfl ?_
        refine zr_iast X K (n := 24) mM_18 (fun _ => rfl) rfl (by decide) (by omega) dX7_reach_29 ?_
        generalize hm_σ1 : mset υ (4, 18) u 160 = σ1
        refine zr_aloadn X dX7_reach_30 rfl ?_
        refine zr_get X K (C := RX7) (T := TX7) (N := 20) (k := 18) mM_0 rfl rfl ti_7 (by decide) rfl tw_718 rfl dX7_reach_31 ?_
        refine zr_iconst X dX7_reach_34 ?_
        refine zr_iloadn X dX7_reach_35 rfl ?_
        refine zr_iast X K (n := 24) mM_19 (fun _ => rfl) rfl (by decide) (by omega) dX7_reach_36 ?_
        generalize hm_σ2 : mset σ1 (4, 19) 0 u = σ2
        refine zr_iconst X dX7_reach_37 ?_
        refine zr_istoren X dX7_reach_38 (by decide) rfl ?_
        refine zr_iconst X dX7_reach_39 ?_
        refine zr_istore X dX7_reach_40 (by decide) rfl ?_
        have loop_42 : ∀ (n_42 : Nat) (q : Int) (k : Int) (rk : Int → Int) (ω : Mem), (rhI σ ω u rk q k) → (24 - k).toNat < n_42 → Wx pg l ev (rmm 0 0 0) s0 mi av bl mt cd D cs idsM ad (Rg idsM ad) s0.heap 8 (MQ bl (qI D cs idsM ad ((fun z τ => rhP σ τ u ∧ (z = 0 ∨ z = 1) ∧ (z = 1 ↔ mkd τ t = true)))) av s0 0 0 (Rg idsM ad)) 0 0 ω 42 [some (.ref (ad (4, 0))), some (jI u), some (jI t), some (jI q), some (jI k), none, none, none] [] := by
          intro n_42
          induction n_42 with
          | zero => exact fun q k rk ω hinv hn => absurd hn (Nat.not_lt_zero _)
          | succ n_42 ih_42 =>
            intro q k rk ω hI_42 hn_42
            obtain ⟨hf, hb, hk0, hA⟩ := hI_42
            have hq := br_q hb
            refine zr_iload X dX7_reach_42 rfl ?_
            refine zr_iloadn X dX7_reach_44 rfl ?_
            refine zr_icmp_ge X 232 dX7_reach_45 (by decide) ⟨by omega, by omega⟩ ⟨by omega, by omega⟩ (fun t_45 => ?_) (fun f_45 => ?_)
            · have hN3 := hf.net hN
              have g2 : ω (4, 2) 0 = σ (4, 2) 0 := congrFun (hf (4, 2) (by decide) (by decide)) 0
              have g3 : ω (4, 3) 0 = σ (4, 3) 0 := congrFun (hf (4, 3) (by decide) (by decide)) 0
              have hct : rg (ω (4, 18) t) := by
                by_cases gm : mkd ω t = true
                · by_cases gu : t = u
                  · rw [gu, hb.1.1]; exact ⟨by decide, by decide⟩
                  · have := (hb.1.2.2.1 t ht.1 (by omega) gm gu).1
                    exact ⟨by omega, by omega⟩
                · rw [mkd_not.mp gm]; exact ⟨by decide, by decide⟩
              refine zr_aloadn X dX7_reach_232 rfl ?_
              refine zr_get X K (C := RX7) (T := TX7) (N := 20) (k := 17) mM_0 rfl rfl ti_7 (by decide) rfl tw_717 rfl dX7_reach_233 ?_
              refine zr_iloadn X dX7_reach_236 rfl ?_
              refine zr_iald X K (n := 24) mM_18 rfl (by decide) (by omega) dX7_reach_237 ?_
              refine zr_iconst X dX7_reach_238 ?_
              refine zr_icmp_eq X 246 dX7_reach_239 (by decide) hct ⟨by decide, by decide⟩ (fun t_239 => ?_) (fun f_239 => ?_)
              · refine zr_iconst X dX7_reach_246 ?_
                refine zr_zret X hr dX7_reach_247 (by omega) ?_
                exact ⟨⟨hf, ⟨rk, q, hb.1, hq⟩, br_end hN3 hb (by omega) hA⟩, Or.inl rfl, fun g => absurd g (by decide), fun g => absurd (mkd_iff.mp g) (by omega)⟩
              · refine zr_iconst X dX7_reach_242 ?_
                refine zr_goto X 247 dX7_reach_243 (by decide) ?_
                refine zr_zret X hr dX7_reach_247 (by omega) ?_
                exact ⟨⟨hf, ⟨rk, q, hb.1, hq⟩, br_end hN3 hb (by omega) hA⟩, Or.inr rfl, fun _ => mkd_iff.mpr (by omega), fun _ => rfl⟩
            · refine zr_iconst X dX7_reach_48 ?_
              refine zr_istore X dX7_reach_49 (by decide) rfl ?_
              have loop_51 : ∀ (n_51 : Nat) (q : Int) (i : Int) (rk : Int → Int) (ψ : Mem), ((0 ≤ i ∧ i ≤ σ (4, 3) 0) ∧ k < q ∧ rhI σ ψ u rk q k ∧ dnB ψ k i) → (σ (4, 3) 0 - i).toNat < n_51 → Wx pg l ev (rmm 0 0 0) s0 mi av bl mt cd D cs idsM ad (Rg idsM ad) s0.heap 8 (MQ bl (qI D cs idsM ad ((fun z τ => rhP σ τ u ∧ (z = 0 ∨ z = 1) ∧ (z = 1 ↔ mkd τ t = true)))) av s0 0 0 (Rg idsM ad)) 0 0 ψ 51 [some (.ref (ad (4, 0))), some (jI u), some (jI t), some (jI q), some (jI k), some (jI i), none, none] [] := by
                intro n_51
                induction n_51 with
                | zero => exact fun q i rk ψ hinv hn => absurd hn (Nat.not_lt_zero _)
                | succ n_51 ih_51 =>
                  intro q i rk ψ hI_51 hn_51
                  obtain ⟨hi0, hkq2, ⟨hf2, hb2, hk2, hA2⟩, hB2⟩ := hI_51
                  have hN2 := hf2.net hN
                  have hR2 := hf2.res hR
                  have g2 : ψ (4, 2) 0 = σ (4, 2) 0 := congrFun (hf2 (4, 2) (by decide) (by decide)) 0
                  have g3 : ψ (4, 3) 0 = σ (4, 3) 0 := congrFun (hf2 (4, 3) (by decide) (by decide)) 0
                  have hq2 := br_q hb2
                  have hrk := (hb2.2.2.1 k hk0.1 hkq2).1
                  refine zr_iload X dX7_reach_51 rfl ?_
                  refine zr_aloadn X dX7_reach_53 rfl ?_
                  refine zr_get X K (C := RX7) (T := TX7) (N := 20) (k := 2) mM_0 rfl rfl ti_7 (by decide) rfl tw_702 rfl dX7_reach_54 ?_
                  refine zr_icmp_ge X 226 dX7_reach_57 (by decide) ⟨by omega, by omega⟩ ⟨by omega, by omega⟩ (fun t_57 => ?_) (fun f_57 => ?_)
                  · refine zr_iinc X dX7_reach_226 rfl (by decide) rfl ?_
                    refine zr_goto X 42 dX7_reach_229 (by decide) ?_
                    refine Wx.weak (lo' := [some (.ref (ad (4, 0))), some (jI u), some (jI t), some (jI q), some (jI (k + 1)), none, none, none]) ⟨rfl, rfl, rfl, rfl, rfl, trivial⟩ ?_
                    have hkq : k < q := by omega
                    have hi2 : i = ψ (4, 3) 0 := by omega
                    rw [hi2] at hB2
                    exact ih_42 _ _ _ _ ⟨hf2, hb2, ⟨by omega, by omega⟩, dn_next hN2 hb2 ⟨hk0.1, by omega⟩ hA2 hB2⟩ (by omega)
                  · have hNi := hN2.2.2 i hi0.1 (by omega)
                    have hRi := hR2 i hi0.1 (by omega)
                    have hc18 : ∀ v, 0 ≤ v → v < 24 → rg (ψ (4, 18) v) := fun v v0 v1 => by
                      by_cases gm : mkd ψ v = true
                      · by_cases gu : v = u
                        · rw [gu, hb2.1.1]; exact ⟨by decide, by decide⟩
                        · have := (hb2.1.2.2.1 v v0 v1 gm gu).1
                          exact ⟨by omega, by omega⟩
                      · rw [mkd_not.mp gm]; exact ⟨by decide, by decide⟩
                    have join_163 : ∀ (y : Int), (byP ψ k i y) → Wx pg l ev (rmm 0 0 0) s0 mi av bl mt cd D cs idsM ad (Rg idsM ad) s0.heap 8 (MQ bl (qI D cs idsM ad ((fun z τ => rhP σ τ u ∧ (z = 0 ∨ z = 1) ∧ (z = 1 ↔ mkd τ t = true)))) av s0 0 0 (Rg idsM ad)) 0 0 ψ 163 [some (.ref (ad (4, 0))), some (jI u), some (jI t), some (jI q), some (jI k), some (jI i), none, none] [(jI y)] := by
                      intro y hJ_163
                      have hy0 : -1 ≤ y ∧ y < 160 := by rcases hJ_163 with g | g | g <;> omega
                      refine zr_istore X dX7_reach_163 (by decide) rfl ?_
                      refine zr_iload X dX7_reach_165 rfl ?_
                      refine zr_iconst X dX7_reach_167 ?_
                      refine zr_icmp_ne X 174 dX7_reach_168 (by decide) ⟨by omega, by omega⟩ ⟨by omega, by omega⟩ (fun t_168 => ?_) (fun f_168 => ?_)
                      · refine zr_iload X dX7_reach_174 rfl ?_
                        refine zr_iconst X dX7_reach_176 ?_
                        refine zr_irem X dX7_reach_177 (by decide) (zb_rem2 ⟨by omega, by omega⟩) ?_
                        refine zr_if_ne X 191 dX7_reach_178 (by decide) ⟨by omega, by omega⟩ (fun t_178 => ?_) (fun f_178 => ?_)
                        · have hyy : y = 2 * i + 1 ∧ ψ (4, 5) i = ψ (4, 19) k ∧ 0 < ψ (4, 17) i ∧ ψ (4, 18) (ψ (4, 4) i) = -1 := by
                            rcases hJ_163 with g | g | g
                            · exact absurd g.1 (by omega)
                            · exact absurd g.1 (by omega)
                            · exact g
                          have hyw : (y = 2 * i ∧ ψ (4, 4) i = ψ (4, 5) i ∧ ψ (4, 4) i = ψ (4, 19) k ∧ 0 < ψ (4, 16) i) ∨ (y = 2 * i + 1 ∧ ψ (4, 4) i = ψ (4, 4) i ∧ ψ (4, 5) i = ψ (4, 19) k ∧ 0 < ψ (4, 17) i) := Or.inr ⟨hyy.1, rfl, hyy.2.1, hyy.2.2.1⟩
                          have hwn := hyy.2.2.2
                          have hq24 := br_lt hb2 (mkd_not.mpr hwn) ⟨hNi.1.1, by omega⟩
                          refine zr_aloadn X dX7_reach_191 rfl ?_
                          refine zr_get X K (C := RX7) (T := TX7) (N := 20) (k := 3) mM_0 rfl rfl ti_7 (by decide) rfl tw_703 rfl dX7_reach_192 ?_
                          refine zr_iload X dX7_reach_195 rfl ?_
                          refine zr_iald X K (n := 80) mM_4 rfl (by decide) (by omega) dX7_reach_197 ?_
                          refine zr_istore X dX7_reach_198 (by decide) rfl ?_
                          refine zr_aloadn X dX7_reach_200 rfl ?_
                          refine zr_get X K (C := RX7) (T := TX7) (N := 20) (k := 17) mM_0 rfl rfl ti_7 (by decide) rfl tw_717 rfl dX7_reach_201 ?_
                          refine zr_iload X dX7_reach_204 rfl ?_
                          refine zr_iload X dX7_reach_206 rfl ?_
                          refine zr_iast X K (n := 24) mM_18 (fun _ => rfl) rfl (by decide) (by omega) dX7_reach_208 ?_
                          generalize hm_σ3 : mset ψ (4, 18) (ψ (4, 4) i) y = σ3
                          refine zr_aloadn X dX7_reach_209 rfl ?_
                          refine zr_get X K (C := RX7) (T := TX7) (N := 20) (k := 18) mM_0 rfl rfl ti_7 (by decide) rfl tw_718 rfl dX7_reach_210 ?_
                          refine zr_iloadn X dX7_reach_213 rfl ?_
                          refine zr_iload X dX7_reach_214 rfl ?_
                          refine zr_iast X K (n := 24) mM_19 (fun _ => rfl) rfl (by decide) (by omega) dX7_reach_216 ?_
                          generalize hm_σ4 : mset σ3 (4, 19) q (ψ (4, 4) i) = σ4
                          refine zr_iinc X dX7_reach_217 rfl (by decide) rfl ?_
                          refine zr_iinc X dX7_reach_220 rfl (by decide) rfl ?_
                          refine zr_goto X 51 dX7_reach_223 (by decide) ?_
                          refine Wx.weak (lo' := [some (.ref (ad (4, 0))), some (jI u), some (jI t), some (jI (q + 1)), some (jI k), some (jI (i + 1)), none, none]) ⟨rfl, rfl, rfl, rfl, rfl, rfl, trivial⟩ ?_
                          obtain ⟨q24, fr2, rk2, b2, a2, bb2⟩ := br_add hN2 hb2 hA2 hB2 ⟨hk0.1, hkq2⟩ ⟨hi0.1, by omega⟩ hyw (mkd_not.mpr hwn) hm_σ3 hm_σ4
                          exact ih_51 _ _ _ _ ⟨⟨by omega, by omega⟩, by omega, ⟨fun p p1 p2 => (fr2 p p1 p2).trans (hf2 p p1 p2), b2, ⟨by omega, by omega⟩, a2⟩, bb2⟩ (by omega)
                        · have hyy : y = 2 * i ∧ ψ (4, 4) i = ψ (4, 19) k ∧ 0 < ψ (4, 16) i ∧ ψ (4, 18) (ψ (4, 5) i) = -1 := by
                            rcases hJ_163 with g | g | g
                            · exact absurd g.1 (by omega)
                            · exact g
                            · exact absurd g.1 (by omega)
                          have hyw : (y = 2 * i ∧ ψ (4, 5) i = ψ (4, 5) i ∧ ψ (4, 4) i = ψ (4, 19) k ∧ 0 < ψ (4, 16) i) ∨ (y = 2 * i + 1 ∧ ψ (4, 5) i = ψ (4, 4) i ∧ ψ (4, 5) i = ψ (4, 19) k ∧ 0 < ψ (4, 17) i) := Or.inl ⟨hyy.1, rfl, hyy.2.1, hyy.2.2.1⟩
                          have hwn := hyy.2.2.2
                          have hq24 := br_lt hb2 (mkd_not.mpr hwn) ⟨hNi.2.1.1, by omega⟩
                          refine zr_aloadn X dX7_reach_181 rfl ?_
                          refine zr_get X K (C := RX7) (T := TX7) (N := 20) (k := 4) mM_0 rfl rfl ti_7 (by decide) rfl tw_704 rfl dX7_reach_182 ?_
                          refine zr_iload X dX7_reach_185 rfl ?_
                          refine zr_iald X K (n := 80) mM_5 rfl (by decide) (by omega) dX7_reach_187 ?_
                          refine zr_goto X 198 dX7_reach_188 (by decide) ?_
                          refine zr_istore X dX7_reach_198 (by decide) rfl ?_
                          refine zr_aloadn X dX7_reach_200 rfl ?_
                          refine zr_get X K (C := RX7) (T := TX7) (N := 20) (k := 17) mM_0 rfl rfl ti_7 (by decide) rfl tw_717 rfl dX7_reach_201 ?_
                          refine zr_iload X dX7_reach_204 rfl ?_
                          refine zr_iload X dX7_reach_206 rfl ?_
                          refine zr_iast X K (n := 24) mM_18 (fun _ => rfl) rfl (by decide) (by omega) dX7_reach_208 ?_
                          generalize hm_σ5 : mset ψ (4, 18) (ψ (4, 5) i) y = σ5
                          refine zr_aloadn X dX7_reach_209 rfl ?_
                          refine zr_get X K (C := RX7) (T := TX7) (N := 20) (k := 18) mM_0 rfl rfl ti_7 (by decide) rfl tw_718 rfl dX7_reach_210 ?_
                          refine zr_iloadn X dX7_reach_213 rfl ?_
                          refine zr_iload X dX7_reach_214 rfl ?_
                          refine zr_iast X K (n := 24) mM_19 (fun _ => rfl) rfl (by decide) (by omega) dX7_reach_216 ?_
                          generalize hm_σ6 : mset σ5 (4, 19) q (ψ (4, 5) i) = σ6
                          refine zr_iinc X dX7_reach_217 rfl (by decide) rfl ?_
                          refine zr_iinc X dX7_reach_220 rfl (by decide) rfl ?_
                          refine zr_goto X 51 dX7_reach_223 (by decide) ?_
                          refine Wx.weak (lo' := [some (.ref (ad (4, 0))), some (jI u), some (jI t), some (jI (q + 1)), some (jI k), some (jI (i + 1)), none, none]) ⟨rfl, rfl, rfl, rfl, rfl, rfl, trivial⟩ ?_
                          obtain ⟨q24, fr2, rk2, b2, a2, bb2⟩ := br_add hN2 hb2 hA2 hB2 ⟨hk0.1, hkq2⟩ ⟨hi0.1, by omega⟩ hyw (mkd_not.mpr hwn) hm_σ5 hm_σ6
                          exact ih_51 _ _ _ _ ⟨⟨by omega, by omega⟩, by omega, ⟨fun p p1 p2 => (fr2 p p1 p2).trans (hf2 p p1 p2), b2, ⟨by omega, by omega⟩, a2⟩, bb2⟩ (by omega)
                      · refine zr_goto X 220 dX7_reach_171 (by decide) ?_
                        refine zr_iinc X dX7_reach_220 rfl (by decide) rfl ?_
                        refine zr_goto X 51 dX7_reach_223 (by decide) ?_
                        refine Wx.weak (lo' := [some (.ref (ad (4, 0))), some (jI u), some (jI t), some (jI q), some (jI k), some (jI (i + 1)), none, none]) ⟨rfl, rfl, rfl, rfl, rfl, rfl, trivial⟩ ?_
                        have hno := byP_no hJ_163 (by omega) hi0.1
                        exact ih_51 _ _ _ _ ⟨⟨by omega, by omega⟩, hkq2, ⟨hf2, hb2, hk2, hA2⟩, dn_no hB2 hno⟩ (by omega)
                    refine zr_aloadn X dX7_reach_60 rfl ?_
                    refine zr_get X K (C := RX7) (T := TX7) (N := 20) (k := 3) mM_0 rfl rfl ti_7 (by decide) rfl tw_703 rfl dX7_reach_61 ?_
                    refine zr_iload X dX7_reach_64 rfl ?_
                    refine zr_iald X K (n := 80) mM_4 rfl (by decide) (by omega) dX7_reach_66 ?_
                    refine zr_aloadn X dX7_reach_67 rfl ?_
                    refine zr_get X K (C := RX7) (T := TX7) (N := 20) (k := 18) mM_0 rfl rfl ti_7 (by decide) rfl tw_718 rfl dX7_reach_68 ?_
                    refine zr_iload X dX7_reach_71 rfl ?_
                    refine zr_iald X K (n := 24) mM_19 rfl (by decide) (by omega) dX7_reach_73 ?_
                    refine zr_icmp_ne X 110 dX7_reach_74 (by decide) ⟨by omega, by omega⟩ ⟨by omega, by omega⟩ (fun t_74 => ?_) (fun f_74 => ?_)
                    · refine zr_aloadn X dX7_reach_110 rfl ?_
                      refine zr_get X K (C := RX7) (T := TX7) (N := 20) (k := 4) mM_0 rfl rfl ti_7 (by decide) rfl tw_704 rfl dX7_reach_111 ?_
                      refine zr_iload X dX7_reach_114 rfl ?_
                      refine zr_iald X K (n := 80) mM_5 rfl (by decide) (by omega) dX7_reach_116 ?_
                      refine zr_aloadn X dX7_reach_117 rfl ?_
                      refine zr_get X K (C := RX7) (T := TX7) (N := 20) (k := 18) mM_0 rfl rfl ti_7 (by decide) rfl tw_718 rfl dX7_reach_118 ?_
                      refine zr_iload X dX7_reach_121 rfl ?_
                      refine zr_iald X K (n := 24) mM_19 rfl (by decide) (by omega) dX7_reach_123 ?_
                      refine zr_icmp_ne X 162 dX7_reach_124 (by decide) ⟨by omega, by omega⟩ ⟨by omega, by omega⟩ (fun t_124 => ?_) (fun f_124 => ?_)
                      · refine zr_iconst X dX7_reach_162 ?_
                        refine Wx.weak (lo' := [some (.ref (ad (4, 0))), some (jI u), some (jI t), some (jI q), some (jI k), some (jI i), none, none]) ⟨rfl, rfl, rfl, rfl, rfl, rfl, trivial⟩ ?_
                        exact join_163 (-1) (by unfold byP; omega)
                      · refine zr_aloadn X dX7_reach_127 rfl ?_
                        refine zr_get X K (C := RX7) (T := TX7) (N := 20) (k := 16) mM_0 rfl rfl ti_7 (by decide) rfl tw_716 rfl dX7_reach_128 ?_
                        refine zr_iload X dX7_reach_131 rfl ?_
                        refine zr_iald X K (n := 80) mM_17 rfl (by decide) (by omega) dX7_reach_133 ?_
                        refine zr_if_le X 162 dX7_reach_134 (by decide) ⟨by omega, by omega⟩ (fun t_134 => ?_) (fun f_134 => ?_)
                        · refine zr_iconst X dX7_reach_162 ?_
                          refine Wx.weak (lo' := [some (.ref (ad (4, 0))), some (jI u), some (jI t), some (jI q), some (jI k), some (jI i), none, none]) ⟨rfl, rfl, rfl, rfl, rfl, rfl, trivial⟩ ?_
                          exact join_163 (-1) (by unfold byP; omega)
                        · refine zr_aloadn X dX7_reach_137 rfl ?_
                          refine zr_get X K (C := RX7) (T := TX7) (N := 20) (k := 17) mM_0 rfl rfl ti_7 (by decide) rfl tw_717 rfl dX7_reach_138 ?_
                          refine zr_aloadn X dX7_reach_141 rfl ?_
                          refine zr_get X K (C := RX7) (T := TX7) (N := 20) (k := 3) mM_0 rfl rfl ti_7 (by decide) rfl tw_703 rfl dX7_reach_142 ?_
                          refine zr_iload X dX7_reach_145 rfl ?_
                          refine zr_iald X K (n := 80) mM_4 rfl (by decide) (by omega) dX7_reach_147 ?_
                          refine zr_iald X K (n := 24) mM_18 rfl (by decide) (by omega) dX7_reach_148 ?_
                          refine zr_iconst X dX7_reach_149 ?_
                          refine zr_icmp_ne X 162 dX7_reach_150 (by decide) (hc18 _ hNi.1.1 (by omega)) ⟨by decide, by decide⟩ (fun t_150 => ?_) (fun f_150 => ?_)
                          · refine zr_iconst X dX7_reach_162 ?_
                            refine Wx.weak (lo' := [some (.ref (ad (4, 0))), some (jI u), some (jI t), some (jI q), some (jI k), some (jI i), none, none]) ⟨rfl, rfl, rfl, rfl, rfl, rfl, trivial⟩ ?_
                            exact join_163 (-1) (by unfold byP; omega)
                          · refine zr_iconst X dX7_reach_153 ?_
                            refine zr_iload X dX7_reach_154 rfl ?_
                            refine zr_imul X dX7_reach_156 ?_
                            refine zr_iconst X dX7_reach_157 ?_
                            refine zr_iadd X dX7_reach_158 ?_
                            refine zr_goto X 163 dX7_reach_159 (by decide) ?_
                            refine Wx.weak (lo' := [some (.ref (ad (4, 0))), some (jI u), some (jI t), some (jI q), some (jI k), some (jI i), none, none]) ⟨rfl, rfl, rfl, rfl, rfl, rfl, trivial⟩ ?_
                            exact join_163 ((2 * i) + 1) (by unfold byP; omega)
                    · refine zr_aloadn X dX7_reach_77 rfl ?_
                      refine zr_get X K (C := RX7) (T := TX7) (N := 20) (k := 15) mM_0 rfl rfl ti_7 (by decide) rfl tw_715 rfl dX7_reach_78 ?_
                      refine zr_iload X dX7_reach_81 rfl ?_
                      refine zr_iald X K (n := 80) mM_16 rfl (by decide) (by omega) dX7_reach_83 ?_
                      refine zr_if_le X 110 dX7_reach_84 (by decide) ⟨by omega, by omega⟩ (fun t_84 => ?_) (fun f_84 => ?_)
                      · refine zr_aloadn X dX7_reach_110 rfl ?_
                        refine zr_get X K (C := RX7) (T := TX7) (N := 20) (k := 4) mM_0 rfl rfl ti_7 (by decide) rfl tw_704 rfl dX7_reach_111 ?_
                        refine zr_iload X dX7_reach_114 rfl ?_
                        refine zr_iald X K (n := 80) mM_5 rfl (by decide) (by omega) dX7_reach_116 ?_
                        refine zr_aloadn X dX7_reach_117 rfl ?_
                        refine zr_get X K (C := RX7) (T := TX7) (N := 20) (k := 18) mM_0 rfl rfl ti_7 (by decide) rfl tw_718 rfl dX7_reach_118 ?_
                        refine zr_iload X dX7_reach_121 rfl ?_
                        refine zr_iald X K (n := 24) mM_19 rfl (by decide) (by omega) dX7_reach_123 ?_
                        refine zr_icmp_ne X 162 dX7_reach_124 (by decide) ⟨by omega, by omega⟩ ⟨by omega, by omega⟩ (fun t_124 => ?_) (fun f_124 => ?_)
                        · refine zr_iconst X dX7_reach_162 ?_
                          refine Wx.weak (lo' := [some (.ref (ad (4, 0))), some (jI u), some (jI t), some (jI q), some (jI k), some (jI i), none, none]) ⟨rfl, rfl, rfl, rfl, rfl, rfl, trivial⟩ ?_
                          exact join_163 (-1) (by unfold byP; omega)
                        · refine zr_aloadn X dX7_reach_127 rfl ?_
                          refine zr_get X K (C := RX7) (T := TX7) (N := 20) (k := 16) mM_0 rfl rfl ti_7 (by decide) rfl tw_716 rfl dX7_reach_128 ?_
                          refine zr_iload X dX7_reach_131 rfl ?_
                          refine zr_iald X K (n := 80) mM_17 rfl (by decide) (by omega) dX7_reach_133 ?_
                          refine zr_if_le X 162 dX7_reach_134 (by decide) ⟨by omega, by omega⟩ (fun t_134 => ?_) (fun f_134 => ?_)
                          · refine zr_iconst X dX7_reach_162 ?_
                            refine Wx.weak (lo' := [some (.ref (ad (4, 0))), some (jI u), some (jI t), some (jI q), some (jI k), some (jI i), none, none]) ⟨rfl, rfl, rfl, rfl, rfl, rfl, trivial⟩ ?_
                            exact join_163 (-1) (by unfold byP; omega)
                          · refine zr_aloadn X dX7_reach_137 rfl ?_
                            refine zr_get X K (C := RX7) (T := TX7) (N := 20) (k := 17) mM_0 rfl rfl ti_7 (by decide) rfl tw_717 rfl dX7_reach_138 ?_
                            refine zr_aloadn X dX7_reach_141 rfl ?_
                            refine zr_get X K (C := RX7) (T := TX7) (N := 20) (k := 3) mM_0 rfl rfl ti_7 (by decide) rfl tw_703 rfl dX7_reach_142 ?_
                            refine zr_iload X dX7_reach_145 rfl ?_
                            refine zr_iald X K (n := 80) mM_4 rfl (by decide) (by omega) dX7_reach_147 ?_
                            refine zr_iald X K (n := 24) mM_18 rfl (by decide) (by omega) dX7_reach_148 ?_
                            refine zr_iconst X dX7_reach_149 ?_
                            refine zr_icmp_ne X 162 dX7_reach_150 (by decide) (hc18 _ hNi.1.1 (by omega)) ⟨by decide, by decide⟩ (fun t_150 => ?_) (fun f_150 => ?_)
                            · refine zr_iconst X dX7_reach_162 ?_
                              refine Wx.weak (lo' := [some (.ref (ad (4, 0))), some (jI u), some (jI t), some (jI q), some (jI k), some (jI i), none, none]) ⟨rfl, rfl, rfl, rfl, rfl, rfl, trivial⟩ ?_
                              exact join_163 (-1) (by unfold byP; omega)
                            · refine zr_iconst X dX7_reach_153 ?_
                              refine zr_iload X dX7_reach_154 rfl ?_
                              refine zr_imul X dX7_reach_156 ?_
                              refine zr_iconst X dX7_reach_157 ?_
                              refine zr_iadd X dX7_reach_158 ?_
                              refine zr_goto X 163 dX7_reach_159 (by decide) ?_
                              refine Wx.weak (lo' := [some (.ref (ad (4, 0))), some (jI u), some (jI t), some (jI q), some (jI k), some (jI i), none, none]) ⟨rfl, rfl, rfl, rfl, rfl, rfl, trivial⟩ ?_
                              exact join_163 ((2 * i) + 1) (by unfold byP; omega)
                      · refine zr_aloadn X dX7_reach_87 rfl ?_
                        refine zr_get X K (C := RX7) (T := TX7) (N := 20) (k := 17) mM_0 rfl rfl ti_7 (by decide) rfl tw_717 rfl dX7_reach_88 ?_
                        refine zr_aloadn X dX7_reach_91 rfl ?_
                        refine zr_get X K (C := RX7) (T := TX7) (N := 20) (k := 4) mM_0 rfl rfl ti_7 (by decide) rfl tw_704 rfl dX7_reach_92 ?_
                        refine zr_iload X dX7_reach_95 rfl ?_
                        refine zr_iald X K (n := 80) mM_5 rfl (by decide) (by omega) dX7_reach_97 ?_
                        refine zr_iald X K (n := 24) mM_18 rfl (by decide) (by omega) dX7_reach_98 ?_
                        refine zr_iconst X dX7_reach_99 ?_
                        refine zr_icmp_ne X 110 dX7_reach_100 (by decide) (hc18 _ hNi.2.1.1 (by omega)) ⟨by decide, by decide⟩ (fun t_100 => ?_) (fun f_100 => ?_)
                        · refine zr_aloadn X dX7_reach_110 rfl ?_
                          refine zr_get X K (C := RX7) (T := TX7) (N := 20) (k := 4) mM_0 rfl rfl ti_7 (by decide) rfl tw_704 rfl dX7_reach_111 ?_
                          refine zr_iload X dX7_reach_114 rfl ?_
                          refine zr_iald X K (n := 80) mM_5 rfl (by decide) (by omega) dX7_reach_116 ?_
                          refine zr_aloadn X dX7_reach_117 rfl ?_
                          refine zr_get X K (C := RX7) (T := TX7) (N := 20) (k := 18) mM_0 rfl rfl ti_7 (by decide) rfl tw_718 rfl dX7_reach_118 ?_
                          refine zr_iload X dX7_reach_121 rfl ?_
                          refine zr_iald X K (n := 24) mM_19 rfl (by decide) (by omega) dX7_reach_123 ?_
                          refine zr_icmp_ne X 162 dX7_reach_124 (by decide) ⟨by omega, by omega⟩ ⟨by omega, by omega⟩ (fun t_124 => ?_) (fun f_124 => ?_)
                          · refine zr_iconst X dX7_reach_162 ?_
                            refine Wx.weak (lo' := [some (.ref (ad (4, 0))), some (jI u), some (jI t), some (jI q), some (jI k), some (jI i), none, none]) ⟨rfl, rfl, rfl, rfl, rfl, rfl, trivial⟩ ?_
                            exact join_163 (-1) (by unfold byP; omega)
                          · refine zr_aloadn X dX7_reach_127 rfl ?_
                            refine zr_get X K (C := RX7) (T := TX7) (N := 20) (k := 16) mM_0 rfl rfl ti_7 (by decide) rfl tw_716 rfl dX7_reach_128 ?_
                            refine zr_iload X dX7_reach_131 rfl ?_
                            refine zr_iald X K (n := 80) mM_17 rfl (by decide) (by omega) dX7_reach_133 ?_
                            refine zr_if_le X 162 dX7_reach_134 (by decide) ⟨by omega, by omega⟩ (fun t_134 => ?_) (fun f_134 => ?_)
                            · refine zr_iconst X dX7_reach_162 ?_
                              refine Wx.weak (lo' := [some (.ref (ad (4, 0))), some (jI u), some (jI t), some (jI q), some (jI k), some (jI i), none, none]) ⟨rfl, rfl, rfl, rfl, rfl, rfl, trivial⟩ ?_
                              exact join_163 (-1) (by unfold byP; omega)
                            · refine zr_aloadn X dX7_reach_137 rfl ?_
                              refine zr_get X K (C := RX7) (T := TX7) (N := 20) (k := 17) mM_0 rfl rfl ti_7 (by decide) rfl tw_717 rfl dX7_reach_138 ?_
                              refine zr_aloadn X dX7_reach_141 rfl ?_
                              refine zr_get X K (C := RX7) (T := TX7) (N := 20) (k := 3) mM_0 rfl rfl ti_7 (by decide) rfl tw_703 rfl dX7_reach_142 ?_
                              refine zr_iload X dX7_reach_145 rfl ?_
                              refine zr_iald X K (n := 80) mM_4 rfl (by decide) (by omega) dX7_reach_147 ?_
                              refine zr_iald X K (n := 24) mM_18 rfl (by decide) (by omega) dX7_reach_148 ?_
                              refine zr_iconst X dX7_reach_149 ?_
                              refine zr_icmp_ne X 162 dX7_reach_150 (by decide) (hc18 _ hNi.1.1 (by omega)) ⟨by decide, by decide⟩ (fun t_150 => ?_) (fun f_150 => ?_)
                              · refine zr_iconst X dX7_reach_162 ?_
                                refine Wx.weak (lo' := [some (.ref (ad (4, 0))), some (jI u), some (jI t), some (jI q), some (jI k), some (jI i), none, none]) ⟨rfl, rfl, rfl, rfl, rfl, rfl, trivial⟩ ?_
                                exact join_163 (-1) (by unfold byP; omega)
                              · refine zr_iconst X dX7_reach_153 ?_
                                refine zr_iload X dX7_reach_154 rfl ?_
                                refine zr_imul X dX7_reach_156 ?_
                                refine zr_iconst X dX7_reach_157 ?_
                                refine zr_iadd X dX7_reach_158 ?_
                                refine zr_goto X 163 dX7_reach_159 (by decide) ?_
                                refine Wx.weak (lo' := [some (.ref (ad (4, 0))), some (jI u), some (jI t), some (jI q), some (jI k), some (jI i), none, none]) ⟨rfl, rfl, rfl, rfl, rfl, rfl, trivial⟩ ?_
                                exact join_163 ((2 * i) + 1) (by unfold byP; omega)
                        · refine zr_iconst X dX7_reach_103 ?_
                          refine zr_iload X dX7_reach_104 rfl ?_
                          refine zr_imul X dX7_reach_106 ?_
                          refine zr_goto X 163 dX7_reach_107 (by decide) ?_
                          refine Wx.weak (lo' := [some (.ref (ad (4, 0))), some (jI u), some (jI t), some (jI q), some (jI k), some (jI i), none, none]) ⟨rfl, rfl, rfl, rfl, rfl, rfl, trivial⟩ ?_
                          exact join_163 (2 * i) (by unfold byP; omega)
              refine Wx.weak (lo' := [some (.ref (ad (4, 0))), some (jI u), some (jI t), some (jI q), some (jI k), some (jI 0), none, none]) ⟨rfl, rfl, rfl, rfl, rfl, rfl, trivial⟩ ?_
              exact loop_51 _ _ _ _ _ ⟨⟨by omega, by omega⟩, by omega, ⟨hf, hb, hk0, hA⟩, fun a b c => by omega⟩ (Nat.lt_succ_self _)
        refine Wx.weak (lo' := [some (.ref (ad (4, 0))), some (jI u), some (jI t), some (jI 1), some (jI 0), none, none, none]) ⟨rfl, rfl, rfl, rfl, rfl, trivial⟩ ?_
        have hi24 : i = 24 := by omega
        rw [hi24] at hI_2
        obtain ⟨b1, b2, b3⟩ := br_0 hN hu hI_2.2.1 hI_2.2.2 hm_σ1 hm_σ2
        exact loop_42 _ _ _ _ _ ⟨b1, b2, ⟨by omega, by omega⟩, b3⟩ (Nat.lt_succ_self _)
      · refine zr_aloadn X dX7_reach_8 rfl ?_
        refine zr_get X K (C := RX7) (T := TX7) (N := 20) (k := 17) mM_0 rfl rfl ti_7 (by decide) rfl tw_717 rfl dX7_reach_9 ?_
        refine zr_iloadn X dX7_reach_12 rfl ?_
        refine zr_iconst X dX7_reach_13 ?_
        refine zr_iast X K (n := 24) mM_18 (fun _ => rfl) rfl (by decide) (by omega) dX7_reach_14 ?_
        generalize hm_σ7 : mset υ (4, 18) i (-1) = σ7
        refine zr_iinc X dX7_reach_15 rfl (by decide) rfl ?_
        refine zr_goto X 2 dX7_reach_18 (by decide) ?_
        refine Wx.weak (lo' := [some (.ref (ad (4, 0))), some (jI u), some (jI t), some (jI (i + 1)), none, none, none, none]) ⟨rfl, rfl, rfl, rfl, trivial⟩ ?_
        exact ih_2 _ _ ⟨⟨by omega, by omega⟩, cb_s hI_2.2 hm_σ7⟩ (by omega)
  refine Wx.weak (lo' := [some (.ref (ad (4, 0))), some (jI u), some (jI t), some (jI 0), none, none, none, none]) ⟨rfl, rfl, rfl, rfl, trivial⟩ ?_
  exact loop_2 _ _ _ ⟨⟨by omega, by omega⟩, fun _ _ => rfl, fun v a b => by omega⟩ (Nat.lt_succ_self _)
