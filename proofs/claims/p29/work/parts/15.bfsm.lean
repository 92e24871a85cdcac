/-! THE FIRST HEIGHTS: breadth first from the goal, the mathematics -/
theorem ctB_cong {p q : Int → Bool} : ∀ {n : Nat}, (∀ v : Nat, v < n → q (v : Int) = p (v : Int)) → ctB q n = ctB p n
  | 0, _ => rfl
  | n + 1, h => by
    unfold ctB
    rw [ctB_cong (n := n) (fun v hv => h v (by omega)), h n (by omega)]
theorem ctB_add {p q : Int → Bool} {w : Nat} (hp : ¬ p (w : Int) = true) (hq : q (w : Int) = true) : ∀ {n : Nat}, w < n → (∀ v : Nat, v < n → v ≠ w → q (v : Int) = p (v : Int)) → ctB q n = ctB p n + 1
  | 0, hw, _ => absurd hw (Nat.not_lt_zero w)
  | n + 1, hw, h => by
    unfold ctB
    by_cases e : w = n
    · subst e
      rw [ctB_cong (n := w) (fun v hv => h v (by omega) (by omega)), if_pos hq, if_neg hp]
    · rw [ctB_add hp hq (n := n) (by omega) (fun v hv hv2 => h v (by omega) hv2), h n (by omega) (Ne.symm e)]
      omega
theorem ctB_full {p : Int → Bool} : ∀ {n : Nat}, n ≤ ctB p n → ∀ v : Nat, v < n → p (v : Int) = true
  | 0, _, v, hv => absurd hv (Nat.not_lt_zero v)
  | n + 1, h, v, hv => by
    have h1 := ctB_le p n
    unfold ctB at h
    by_cases hn : p (n : Int) = true
    · rw [if_pos hn] at h
      by_cases e : v = n
      · rw [e]; exact hn
      · exact ctB_full (n := n) (by omega) v (by omega)
    · rw [if_neg hn] at h
      omega
def low (σ : Mem) (b : Nat) : Int → Bool := fun v => decide (σ (b + 6, 6) v < σ (0, 0) 0)
/-- what stands in the queue, and the heights, with c found -/
def bfQ (σ : Mem) (b : Nat) (t c : Int) : Prop := (0 ≤ t ∧ t < σ (0, 0) 0) ∧ σ (b + 6, 6) t = 0 ∧ (1 ≤ c ∧ c = (ctB (low σ b) (σ (0, 0) 0).toNat : Int)) ∧
  (∀ j, 0 ≤ j → j < c → (0 ≤ σ (b + 6, 7) j ∧ σ (b + 6, 7) j < σ (0, 0) 0) ∧ 0 ≤ σ (b + 6, 6) (σ (b + 6, 7) j) ∧ σ (b + 6, 6) (σ (b + 6, 7) j) ≤ j ∧ σ (b + 6, 6) (σ (b + 6, 7) j) < σ (0, 0) 0) ∧
  (∀ v, 0 ≤ v → v < σ (0, 0) 0 → σ (b + 6, 6) v = σ (0, 0) 0 ∨ (σ (b + 6, 6) v < σ (0, 0) 0 ∧ ∃ j, 0 ≤ j ∧ j < c ∧ σ (b + 6, 7) j = v)) ∧
  (∀ i j, 0 ≤ i → i ≤ j → j < c → σ (b + 6, 6) (σ (b + 6, 7) i) ≤ σ (b + 6, 6) (σ (b + 6, 7) j))
/-- the nodes at the places below x are done -/
def bfD (σ : Mem) (b : Nat) (x : Int) : Prop := ∀ j, 0 ≤ j → j < x → ∀ a, 0 ≤ a → a < σ (0, 1) 0 → (σ (0, 2) a = σ (b + 6, 7) j ∨ σ (0, 3) a = σ (b + 6, 7) j) → 0 < rmF σ b a (otF σ a (σ (b + 6, 7) j)) → σ (b + 6, 6) (otF σ a (σ (b + 6, 7) j)) ≤ σ (b + 6, 6) (σ (b + 6, 7) j) + 1
def bfI (σ : Mem) (b : Nat) (t c x : Int) : Prop := (NetOk σ ∧ AdjOk σ) ∧ bfQ σ b t c ∧ bfD σ b x ∧ (0 ≤ x ∧ x ≤ c) ∧ ∃ d, (∀ j, 0 ≤ j → j < c → σ (b + 6, 6) (σ (b + 6, 7) j) ≤ d + 1) ∧ ∀ j, x ≤ j → j < c → d ≤ σ (b + 6, 6) (σ (b + 6, 7) j)
/-- the node at the place x is at work, its first i arcs done -/
def bfW (σ : Mem) (b : Nat) (t c x i : Int) : Prop := (NetOk σ ∧ AdjOk σ) ∧ bfQ σ b t c ∧ bfD σ b x ∧ (0 ≤ x ∧ x < c) ∧ (∀ j, 0 ≤ j → j < c → σ (b + 6, 6) (σ (b + 6, 7) j) ≤ σ (b + 6, 6) (σ (b + 6, 7) x) + 1) ∧
  ∀ j, 0 ≤ j → j < i → 0 < rmF σ b (σ (1, (σ (b + 6, 7) x).toNat) j) (otF σ (σ (1, (σ (b + 6, 7) x).toNat) j) (σ (b + 6, 7) x)) → σ (b + 6, 6) (otF σ (σ (1, (σ (b + 6, 7) x).toNat) j) (σ (b + 6, 7) x)) ≤ σ (b + 6, 6) (σ (b + 6, 7) x) + 1
theorem bfW_0 {σ : Mem} {b : Nat} {t c x : Int} (h : bfI σ b t c x) (hx : x < c) : bfW σ b t c x 0 := by
  obtain ⟨h1, h2, h3, h4, d, h5, h6⟩ := h
  refine ⟨h1, h2, h3, ⟨h4.1, hx⟩, fun j j1 j2 => ?_, fun j j1 j2 => by omega⟩
  have := h5 j j1 j2
  have := h6 x (Int.le_refl x) hx
  omega
theorem bfW_end {σ : Mem} {b : Nat} {t c x i : Int} (h : bfW σ b t c x i) (hi : σ (0, 4) (σ (b + 6, 7) x) ≤ i) : bfI σ b t c (x + 1) := by
  obtain ⟨h1, h2, h3, h4, h5, h6⟩ := h
  refine ⟨h1, h2, fun j j1 j2 a a1 a2 a3 a4 => ?_, ⟨by omega, by omega⟩, σ (b + 6, 6) (σ (b + 6, 7) x), h5, fun j j1 j2 => h2.2.2.2.2.2 x j h4.1 (by omega) j2⟩
  by_cases e : j = x
  · subst e
    obtain ⟨k, hk, ek⟩ := adj_at h1.2 ⟨a1, a2⟩ a3
    have := h6 k hk.1 (by omega)
    rw [ek] at this
    exact this a4
  · exact h3 j j1 (by omega) a a1 a2 a3 a4
theorem bfW_cnt {σ : Mem} {b : Nat} {t c x i : Int} (h : bfW σ b t c x i) : c ≤ σ (0, 0) 0 := by
  have h1 := h.2.1.2.2.1.2
  have h2 := ctB_le (low σ b) (σ (0, 0) 0).toNat
  have := h.1.1.1
  omega
theorem bfW_new {σ : Mem} {b : Nat} {t c x i : Int} (h : bfW σ b t c x i) {w : Int} (hw : 0 ≤ w ∧ w < σ (0, 0) 0) (hn : σ (b + 6, 6) w = σ (0, 0) 0) : c < σ (0, 0) 0 := by
  have h1 := h.2.1.2.2.1.2
  have hq := ctB_lt (p := low σ b) (q := fun _ => true) (fun _ _ _ => rfl) (v := w.toNat) rfl (by
    intro q
    unfold low at q
    have := of_decide_eq_true q
    rw [Int.toNat_of_nonneg hw.1] at this
    omega) (σ (0, 0) 0).toNat (by omega)
  have := ctB_le (fun _ => true) (σ (0, 0) 0).toNat
  omega
theorem bfW_skip {σ : Mem} {b : Nat} {t c x i : Int} (h : bfW σ b t c x i) (hi : 0 ≤ i ∧ i < σ (0, 4) (σ (b + 6, 7) x)) (hs : σ (b + 6, 6) (otF σ (σ (1, (σ (b + 6, 7) x).toNat) i) (σ (b + 6, 7) x)) ≠ σ (0, 0) 0 ∨ ¬ 0 < rmF σ b (σ (1, (σ (b + 6, 7) x).toNat) i) (otF σ (σ (1, (σ (b + 6, 7) x).toNat) i) (σ (b + 6, 7) x)) ∨ 24 ≤ c) : bfW σ b t c x (i + 1) := by
  have hcn := bfW_cnt h
  have hnew := fun w hw hn => bfW_new h (w := w) hw hn
  obtain ⟨h1, h2, h3, h4, h5, h6⟩ := h
  obtain ⟨u1, -⟩ := h2.2.2.2.1 x h4.1 h4.2
  have hn := h1.1.1
  refine ⟨h1, h2, h3, h4, h5, fun j j1 j2 j3 => ?_⟩
  by_cases e : j = i
  · subst e
    obtain ⟨ha, hua⟩ := h1.2.2.2.1 (σ (b + 6, 7) x) j u1.1 (by omega) hi.1 hi.2
    obtain ⟨-, w1, -⟩ := ends h1.1 ha hua
    rcases h2.2.2.2.2.1 _ w1.1 w1.2 with q | ⟨q, k, k1, k2, k3⟩
    · rcases hs with hs | hs | hs
      · exact absurd q hs
      · exact absurd j3 hs
      · have := hnew _ w1 q
        omega
    · have := h5 k k1 k2
      rw [k3] at this
      exact this
  · exact h6 j j1 (by omega) j3
theorem bfW_step {σ τ : Mem} {b : Nat} {t c x i w : Int} (h : bfW σ b t c x i) (hi : 0 ≤ i ∧ i < σ (0, 4) (σ (b + 6, 7) x)) (hw : w = otF σ (σ (1, (σ (b + 6, 7) x).toNat) i) (σ (b + 6, 7) x)) (hn : σ (b + 6, 6) w = σ (0, 0) 0) (hf : Fr b [6, 7] σ τ) (e6 : ∀ v, τ (b + 6, 6) v = if v = w then σ (b + 6, 6) (σ (b + 6, 7) x) + 1 else σ (b + 6, 6) v) (e7 : ∀ j, τ (b + 6, 7) j = if j = c then w else σ (b + 6, 7) j) : bfW τ b t (c + 1) x (i + 1) := by
  have hnew := fun w hw hn => bfW_new h (w := w) hw hn
  obtain ⟨h1, ⟨q1, q2, q3, q4, q5, q6⟩, h3, h4, h5, h6⟩ := h
  obtain ⟨u1, u2, u3, u4⟩ := q4 x h4.1 h4.2
  have hn0 := h1.1.1
  obtain ⟨ha, hua⟩ := h1.2.2.2.1 (σ (b + 6, 7) x) i u1.1 (by omega) hi.1 hi.2
  obtain ⟨-, w1, -⟩ := ends h1.1 ha hua
  rw [← hw] at w1
  have hc := hnew w w1 hn
  have hnt : w ≠ t := by intro e; rw [e, q2] at hn; omega
  have ne7 : ∀ j, 0 ≤ j → j < c → σ (b + 6, 7) j ≠ w := fun j j1 j2 e => by
    have := (q4 j j1 j2).2.2.2
    rw [e] at this
    omega
  have o7 : ∀ j, 0 ≤ j → j < c → τ (b + 6, 7) j = σ (b + 6, 7) j := fun j j1 j2 => by rw [e7, if_neg (by omega)]
  have o6 : ∀ j, 0 ≤ j → j < c → τ (b + 6, 6) (σ (b + 6, 7) j) = σ (b + 6, 6) (σ (b + 6, 7) j) := fun j j1 j2 => by rw [e6, if_neg (ne7 j j1 j2)]
  have n7 : τ (b + 6, 7) c = w := by rw [e7, if_pos rfl]
  have n6 : τ (b + 6, 6) w = σ (b + 6, 6) (σ (b + 6, 7) x) + 1 := by rw [e6, if_pos rfl]
  have ux : τ (b + 6, 7) x = σ (b + 6, 7) x := o7 x h4.1 h4.2
  have hx6 : τ (b + 6, 6) (τ (b + 6, 7) x) = σ (b + 6, 6) (σ (b + 6, 7) x) := by rw [ux, o6 x h4.1 h4.2]
  have eo : ∀ a v, otF τ a v = otF σ a v := fun a v => by unfold otF; rw [hf.of 0 2, hf.of 0 3]
  have er : ∀ a v, rmF τ b a v = rmF σ b a v := fun a v => by unfold rmF; rw [hf.of 0 2, hf.own 2, hf.own 3]
  have hle : ∀ v, σ (b + 6, 6) v ≤ σ (b + 6, 6) (σ (b + 6, 7) x) + 1 → τ (b + 6, 6) v ≤ σ (b + 6, 6) (σ (b + 6, 7) x) + 1 := fun v hv => by
    rw [e6]
    split
    · omega
    · exact hv
  refine ⟨⟨hf.net h1.1, hf.adj h1.2⟩, ⟨by rw [hf.of 0 0]; exact q1, by rw [e6, if_neg (Ne.symm hnt)]; exact q2, ⟨by omega, ?_⟩, fun j j1 j2 => ?_, fun v v1 v2 => ?_, fun j k j1 j2 j3 => ?_⟩, fun j j1 j2 a a1 a2 a3 a4 => ?_, ⟨h4.1, by omega⟩, fun j j1 j2 => ?_, fun j j1 j2 j3 => ?_⟩
  · rw [hf.of 0 0, ctB_add (p := low σ b) (q := low τ b) (w := w.toNat) (by
      intro q
      unfold low at q
      have := of_decide_eq_true q
      rw [Int.toNat_of_nonneg w1.1] at this
      omega) (by
      unfold low
      rw [Int.toNat_of_nonneg w1.1, n6, hf.of 0 0]
      exact decide_eq_true (by omega)) (by omega) (fun v v1 v2 => by
      unfold low
      rw [e6, if_neg (by omega), hf.of 0 0])]
    omega
  · rw [hf.of 0 0]
    by_cases e : j = c
    · subst e
      rw [n7, n6]
      exact ⟨w1, by omega, by omega, by omega⟩
    · rw [o7 j j1 (by omega), o6 j j1 (by omega)]
      exact q4 j j1 (by omega)
  · rw [hf.of 0 0] at v2 ⊢
    by_cases e : v = w
    · right
      subst e
      exact ⟨by rw [n6]; omega, c, by omega, by omega, n7⟩
    · rw [e6, if_neg e]
      rcases q5 v v1 v2 with k | ⟨k, j, j1, j2, j3⟩
      · exact Or.inl k
      · exact Or.inr ⟨k, j, j1, by omega, by rw [o7 j j1 j2]; exact j3⟩
  · by_cases e : k = c
    · subst e
      rw [n7, n6]
      by_cases e2 : j = k
      · subst e2
        rw [n7, n6]; omega
      · rw [o7 j j1 (by omega), o6 j j1 (by omega)]
        exact h5 j j1 (by omega)
    · rw [o7 j j1 (by omega), o6 j j1 (by omega), o7 k (by omega) (by omega), o6 k (by omega) (by omega)]
      exact q6 j k j1 j2 (by omega)
  · rw [hf.of 0 1] at a2
    rw [hf.of 0 2, hf.of 0 3, o7 j j1 (by omega)] at a3
    rw [o7 j j1 (by omega), eo, er] at a4
    rw [o7 j j1 (by omega), eo, o6 j j1 (by omega)]
    have hj := h3 j j1 j2 a a1 a2 a3 a4
    rw [e6]
    by_cases e : otF σ a (σ (b + 6, 7) j) = w
    · rw [if_pos e]
      rw [e, hn] at hj
      have := (q4 j j1 (by omega)).2.2.2
      omega
    · rw [if_neg e]; exact hj
  · rw [hx6]
    by_cases e : j = c
    · subst e
      rw [n7, n6]; omega
    · rw [o7 j j1 (by omega)]
      exact hle _ (h5 j j1 (by omega))
  · have e1 : τ (1, (σ (b + 6, 7) x).toNat) = σ (1, (σ (b + 6, 7) x).toNat) := hf.of 1 _
    rw [ux, e1, eo, er] at j3
    rw [hx6, ux, e1, eo]
    by_cases e : j = i
    · subst e
      rw [← hw, n6]; omega
    · exact hle _ (h6 j j1 (by omega) j3)
/-- the heights when the queue is through -/
def shP (σ τ : Mem) (b : Nat) (t : Int) : Prop := Fr b [6, 7] σ τ ∧ VL τ b ∧ τ (b + 6, 6) t = 0 ∧ ∀ v, 0 ≤ v → v < τ (0, 0) 0 → 0 ≤ τ (b + 6, 6) v ∧ τ (b + 6, 6) v ≤ τ (0, 0) 0
theorem bfI_end {σ : Mem} {b : Nat} {t c x : Int} (h : bfI σ b t c x) (he : c ≤ x ∨ σ (0, 0) 0 ≤ c) : VL σ b ∧ σ (b + 6, 6) t = 0 ∧ ∀ v, 0 ≤ v → v < σ (0, 0) 0 → 0 ≤ σ (b + 6, 6) v ∧ σ (b + 6, 6) v ≤ σ (0, 0) 0 := by
  obtain ⟨h1, ⟨q1, q2, q3, q4, q5, q6⟩, h3, h4, d, h5, h6⟩ := h
  have hn := h1.1.1
  have hbd : ∀ v, 0 ≤ v → v < σ (0, 0) 0 → 0 ≤ σ (b + 6, 6) v ∧ σ (b + 6, 6) v ≤ σ (0, 0) 0 := fun v v1 v2 => by
    rcases q5 v v1 v2 with e | ⟨e, j, j1, j2, j3⟩
    · omega
    · have := (q4 j j1 j2).2.1
      rw [j3] at this
      omega
  have key : ∀ a u, 0 ≤ a → a < σ (0, 1) 0 → (σ (0, 2) a = u ∨ σ (0, 3) a = u) → 0 < rmF σ b a u → σ (b + 6, 6) u ≤ σ (b + 6, 6) (otF σ a u) + 1 := by
    intro a u a1 a2 a3 a4
    obtain ⟨u1, w1, uw⟩ := ends h1.1 ⟨a1, a2⟩ a3
    have hback : otF σ a (otF σ a u) = u ∧ (σ (0, 2) a = otF σ a u ∨ σ (0, 3) a = otF σ a u) := by
      rcases a3 with rfl | rfl
      · rw [otF_t, otF_h h1.1 ⟨a1, a2⟩]; exact ⟨rfl, Or.inr rfl⟩
      · rw [otF_h h1.1 ⟨a1, a2⟩, otF_t]; exact ⟨rfl, Or.inl rfl⟩
    rcases q5 _ w1.1 w1.2 with e | ⟨e, j, j1, j2, j3⟩
    · have := (hbd u u1.1 u1.2).2
      omega
    · by_cases hjx : j < x
      · have := h3 j j1 hjx a a1 a2 (by rw [j3]; exact hback.2)
        rw [j3, hback.1] at this
        exact this a4
      · rcases he with he | he
        · omega
        · have hfull := ctB_full (p := low σ b) (n := (σ (0, 0) 0).toNat) (by omega) u.toNat (by omega)
          unfold low at hfull
          rw [Int.toNat_of_nonneg u1.1] at hfull
          have hfull := of_decide_eq_true hfull
          rcases q5 u u1.1 u1.2 with e2 | ⟨e2, k, k1, k2, k3⟩
          · omega
          · have r1 := h5 k k1 k2
            have r2 := h6 j (by omega) j2
            rw [k3] at r1
            rw [j3] at r2
            omega
  refine ⟨fun a a1 a2 => ⟨fun r => ?_, fun r => ?_⟩, q2, hbd⟩
  · have := key a _ a1 a2 (Or.inl rfl) (by rw [rmF_t]; exact r)
    rw [otF_t] at this
    exact this
  · have := key a _ a1 a2 (Or.inr rfl) (by rw [rmF_h h1.1 ⟨a1, a2⟩]; exact r)
    rw [otF_h h1.1 ⟨a1, a2⟩] at this
    exact this
theorem bfI_0 {σ : Mem} {b : Nat} {t : Int} (hN : NetOk σ) (hA : AdjOk σ) (ht : 0 ≤ t ∧ t < σ (0, 0) 0) (h6 : ∀ v, 0 ≤ v → v < σ (0, 0) 0 → σ (b + 6, 6) v = if v = t then 0 else σ (0, 0) 0) (h7 : σ (b + 6, 7) 0 = t) : bfI σ b t 1 0 := by
  have h0 : σ (b + 6, 6) t = 0 := by rw [h6 t ht.1 ht.2, if_pos rfl]
  have hz : ∀ n, ctB (fun _ => false) n = 0 := fun n => by
    induction n with
    | zero => rfl
    | succ n ih => unfold ctB; rw [ih]; rfl
  have hone : ctB (low σ b) (σ (0, 0) 0).toNat = 1 := by
    rw [ctB_add (p := fun _ => false) (q := low σ b) (w := t.toNat) (by simp) (by
      unfold low
      rw [Int.toNat_of_nonneg ht.1, h0]
      exact decide_eq_true (by omega)) (by omega) (fun v v1 v2 => by
      unfold low
      rw [h6 (v : Int) (by omega) (by omega), if_neg (by omega)]
      exact decide_eq_false (by omega)), hz]
  refine ⟨⟨hN, hA⟩, ⟨ht, h0, ⟨by omega, by rw [hone]; rfl⟩, fun j j1 j2 => ?_, fun v v1 v2 => ?_, fun i j i1 i2 i3 => ?_⟩, fun j j1 j2 => by omega, ⟨by omega, by omega⟩, 0, fun j j1 j2 => ?_, fun j j1 j2 => ?_⟩
  · have : j = 0 := by omega
    subst this
    rw [h7, h0]
    exact ⟨ht, by omega, by omega, by omega⟩
  · by_cases e : v = t
    · right
      subst e
      exact ⟨by omega, 0, by omega, by omega, h7⟩
    · left
      rw [h6 v v1 v2, if_neg e]
  · have : i = 0 := by omega
    subst this
    have : j = 0 := by omega
    subst this
    exact Int.le_refl _
  · have : j = 0 := by omega
    subst this
    rw [h7, h0]; omega
  · have : j = 0 := by omega
    subst this
    rw [h7, h0]; omega
/-- the beginning of the work -/
theorem pfI_0 {σ τ : Mem} {b : Nat} {s t B : Int} (hN : NetOk σ) (hA : AdjOk σ) (hF : FlOk σ b) (hf : Fr b [5, 6, 7, 11, 12] σ τ) (hV : VL τ b) (ht : τ (b + 6, 6) t = 0) (hb : ∀ v, 0 ≤ v → v < τ (0, 0) 0 → 0 ≤ τ (b + 6, 6) v ∧ τ (b + 6, 6) v ≤ τ (0, 0) 0) (h5 : ∀ v, 0 ≤ v → v < σ (0, 0) 0 → τ (b + 6, 5) v = if v = s then B else 0) (hs : 0 ≤ s ∧ s < σ (0, 0) 0) (htn : 0 ≤ t ∧ t < σ (0, 0) 0) (hst : s ≠ t) (hB : 0 ≤ B ∧ B ≤ 100000000) (e11 : τ (b + 6, 11) 0 = s) (e12 : τ (b + 6, 12) 0 = t) : pfI τ b (net σ b) s t B := by
  refine ⟨⟨hf.net hN, hf.adj hA, hf.fl (hN := hF)⟩, fun X => ?_, fun X => ?_, net_all, fun v v1 v2 => ?_, hV, ht, ?_, fun v v1 v2 => ?_, ⟨e11, e12⟩, by rw [hf.of 0 0]; exact hs, by rw [hf.of 0 0]; exact htn, hst, hB.1, hB.2⟩
  · rw [net_same (hf.of 0 1) (hf.of 0 2) (hf.of 0 3) (hf.own 3)]
    unfold sx
    rw [hf.of 0 0, sm_cong (g := fun v => if v = s then ind X s B else 0) (fun v v1 v2 => by
      show ind X v (τ (b + 6, 5) v) = _
      rw [h5 v v1 (by omega)]
      split
      · rename_i e; rw [e]
      · exact ind_0 X v), sm_upd (fun _ => 0) hs.1 (by omega), sm_zero]
    omega
  · rw [cpo_same (hf.of 0 1) (hf.of 0 2) (hf.of 0 3) (hf.own 2)]; exact net_le hN hF X
  · rw [hf.of 0 0] at v2
    rw [h5 v v1 v2]
    split <;> omega
  · exact (hb s hs.1 (by rw [hf.of 0 0]; exact hs.2)).2
  · have := hb v v1 v2
    rw [hf.of 0 0] at v2 this ⊢
    omega
theorem rtI_0 {σ0 σ : Mem} {b : Nat} {N0 : (Int → Bool) → Int} {s t B : Int} (h : pfI σ b N0 s t B) (hf : Fr b [3, 5, 6, 7, 11, 12] σ0 σ) : rtI σ0 σ b N0 s t B 47 0 1 := by
  have hr := HS_rg h
  have hn := h.1.1.1
  exact ⟨h, hf, Or.inr rfl, fun e => by omega, fun v v1 v2 _ => by
    have := (h.2.2.2.2.2.2.2.2.1 v v1 v2).2
    omega, by omega, by omega, fun _ => by omega⟩
