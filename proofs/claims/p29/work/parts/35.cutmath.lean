/-! CUTS OF A SMALL NETWORK: what a walk over all masks tells -/
theorem gcp_on {m : Nat} {tl hd c : Int → Int} {n : Int} (h : ∀ a : Int, 0 ≤ a → a < m → (0 ≤ tl a ∧ tl a < n) ∧ (0 ≤ hd a ∧ hd a < n)) {X Y : Int → Bool} (e : ∀ v, 0 ≤ v → v < n → X v = Y v) : gcp m tl hd c X = gcp m tl hd c Y := sm_cong fun a a0 a1 => by
  obtain ⟨⟨p1, p2⟩, p3, p4⟩ := h a a0 a1
  show (if X (tl a) = true ∧ ¬ X (hd a) = true then c a else 0) = if Y (tl a) = true ∧ ¬ Y (hd a) = true then c a else 0
  rw [e _ p1 p2, e _ p3 p4]
theorem mk5 (X : Int → Bool) : ∃ q : Int, (0 ≤ q ∧ q < 32) ∧ ∀ v, 0 ≤ v → v < 5 → bt q v = X v := by
  have key : ∀ b0 b1 b2 b3 b4 : Bool, ∃ q : Fin 32, bt (q.val : Int) 0 = b0 ∧ bt (q.val : Int) 1 = b1 ∧ bt (q.val : Int) 2 = b2 ∧ bt (q.val : Int) 3 = b3 ∧ bt (q.val : Int) 4 = b4 := by decide +kernel
  obtain ⟨q, h0, h1, h2, h3, h4⟩ := key (X 0) (X 1) (X 2) (X 3) (X 4)
  refine ⟨(q.val : Int), ⟨by omega, by have := q.isLt; omega⟩, fun v v0 v1 => ?_⟩
  rcases (show v = 0 ∨ v = 1 ∨ v = 2 ∨ v = 3 ∨ v = 4 by omega) with rfl | rfl | rfl | rfl | rfl <;> assumption
theorem bt_32 {q v : Int} (h : q < 32) (hv : 5 ≤ v) : bt q v = false := by
  unfold bt
  apply Nat.testBit_lt_two_pow
  calc q.toNat < 2 ^ 5 := by omega
    _ ≤ 2 ^ v.toNat := Nat.pow_le_pow_right (by decide) (by omega)
def aI (a b : Int) : Int := ((a.toNat &&& b.toNat : Nat) : Int)
theorem bt_a {a b v : Int} : bt (aI a b) v = (bt a v && bt b v) := by
  unfold bt aI
  rw [Int.toNat_natCast, Nat.testBit_and]
theorem zb_and {a b : Int} (ha : 0 ≤ a) (hb : 0 ≤ b) : iI a &&& iI b = iI (aI a b) := by
  obtain ⟨k, rfl⟩ := nat_of ha
  obtain ⟨n, rfl⟩ := nat_of hb
  show Int32.ofNat k &&& Int32.ofNat n = Int32.ofNat (k &&& n)
  apply Int32.toBitVec_inj.mp
  apply BitVec.eq_of_getLsbD_eq
  intro i hi
  simp [hi]
theorem aI_le {a b : Int} (ha : 0 ≤ a) (hb : 0 ≤ b) : 0 ≤ aI a b ∧ aI a b ≤ a ∧ aI a b ≤ b := by
  have h1 := Nat.and_le_left (n := a.toNat) (m := b.toNat)
  have h2 := Nat.and_le_right (n := a.toNat) (m := b.toNat)
  unfold aI
  omega
theorem oI_32 {a b : Int} (ha : 0 ≤ a ∧ a < 32) (hb : 0 ≤ b ∧ b < 32) : (0 ≤ oI a b ∧ oI a b < 32) ∧ a ≤ oI a b := by
  have h := Nat.or_lt_two_pow (x := a.toNat) (y := b.toNat) (n := 5) (by omega) (by omega)
  have h1 := Nat.left_le_or (n := a.toNat) (m := b.toNat)
  unfold oI
  omega
theorem gcp_sub {m : Nat} {tl hd c : Int → Int} (hc : ∀ a : Int, 0 ≤ a → a < m → 0 ≤ c a) (X Y : Int → Bool) : gcp m tl hd c (fun v => X v && Y v) + gcp m tl hd c (fun v => X v || Y v) ≤ gcp m tl hd c X + gcp m tl hd c Y := by
  unfold gcp
  rw [← sm_add, ← sm_add]
  refine sm_le fun a a0 a1 => ?_
  have := hc a a0 a1
  show (if (X (tl a) && Y (tl a)) = true ∧ ¬ (X (hd a) && Y (hd a)) = true then c a else 0) + (if (X (tl a) || Y (tl a)) = true ∧ ¬ (X (hd a) || Y (hd a)) = true then c a else 0) ≤ (if X (tl a) = true ∧ ¬ X (hd a) = true then c a else 0) + (if Y (tl a) = true ∧ ¬ Y (hd a) = true then c a else 0)
  cases X (tl a) <;> cases X (hd a) <;> cases Y (tl a) <;> cases Y (hd a) <;> simp <;> omega
theorem sm_single {i x : Int} {n : Nat} (hi : 0 ≤ i ∧ i < n) : sm (fun a => if a = i then x else 0) n = x := by
  have := sm_upd (fun _ => 0) (i := i) (x := x) hi.1 hi.2
  rw [sm_zero] at this
  omega
/-- an arc that leads from one set's rest to the other's -/
theorem gcp_sub2 {m : Nat} {tl hd c : Int → Int} (hc : ∀ a : Int, 0 ≤ a → a < m → 0 ≤ c a) (X Y : Int → Bool) {i : Int} (hi : 0 ≤ i ∧ i < m) (h1 : X (hd i) = true) (h2 : ¬ X (tl i) = true) (h3 : Y (tl i) = true) (h4 : ¬ Y (hd i) = true) : gcp m tl hd c (fun v => X v && Y v) + gcp m tl hd c (fun v => X v || Y v) + c i ≤ gcp m tl hd c X + gcp m tl hd c Y := by
  have key : gcp m tl hd c (fun v => X v && Y v) + gcp m tl hd c (fun v => X v || Y v) + sm (fun a => if a = i then c i else 0) m ≤ gcp m tl hd c X + gcp m tl hd c Y := by
    unfold gcp
    rw [← sm_add, ← sm_add, ← sm_add]
    refine sm_le fun a a0 a1 => ?_
    have := hc a a0 a1
    show (if (X (tl a) && Y (tl a)) = true ∧ ¬ (X (hd a) && Y (hd a)) = true then c a else 0) + (if (X (tl a) || Y (tl a)) = true ∧ ¬ (X (hd a) || Y (hd a)) = true then c a else 0) + (if a = i then c i else 0) ≤ (if X (tl a) = true ∧ ¬ X (hd a) = true then c a else 0) + (if Y (tl a) = true ∧ ¬ Y (hd a) = true then c a else 0)
    by_cases e : a = i
    · subst e
      rw [Bool.not_eq_true] at h2 h4
      rw [h1, h2, h3, h4]
      simp
    · rw [if_neg e]
      cases X (tl a) <;> cases X (hd a) <;> cases Y (tl a) <;> cases Y (hd a) <;> simp <;> omega
  rw [sm_single hi] at key
  exact key
theorem gcp_upd {m : Nat} {tl hd c : Int → Int} {a x : Int} (ha : 0 ≤ a ∧ a < m) (X : Int → Bool) : gcp m tl hd (updC c a x) X = gcp m tl hd c X + (if X (tl a) = true ∧ ¬ X (hd a) = true then x - c a else 0) := by
  have key := sm_upd (fun j => if X (tl j) = true ∧ ¬ X (hd j) = true then c j else 0) (i := a) (x := if X (tl a) = true ∧ ¬ X (hd a) = true then x else 0) ha.1 ha.2
  have e : gcp m tl hd (updC c a x) X = sm (fun j => if j = a then (if X (tl a) = true ∧ ¬ X (hd a) = true then x else 0) else if X (tl j) = true ∧ ¬ X (hd j) = true then c j else 0) m := sm_cong fun j j0 j1 => by
    show (if X (tl j) = true ∧ ¬ X (hd j) = true then updC c a x j else 0) = _
    unfold updC
    by_cases q : j = a
    · rw [if_pos q, if_pos q, q]
    · rw [if_neg q, if_neg q]
  rw [e, key]
  unfold gcp
  split <;> omega
/-! the walk -/
def mI (K : Int → Prop) (cp : Int → Int) (m L A O : Int) : Prop := (0 ≤ m ∧ m ≤ 32) ∧ (((∀ q, 0 ≤ q → q < m → ¬ K q) ∧ L = 2147483647 ∧ A = -1 ∧ O = 0) ∨ ((∃ q, (0 ≤ q ∧ q < m) ∧ K q ∧ cp q = L) ∧ (∀ q, 0 ≤ q → q < m → K q → L ≤ cp q) ∧ (0 ≤ A ∧ A < 32) ∧ (0 ≤ O ∧ O < 32) ∧ (∀ v, 0 ≤ v → (bt A v = true ↔ ∀ q, 0 ≤ q → q < m → K q → cp q = L → bt q v = true)) ∧ ∀ v, 0 ≤ v → (bt O v = true ↔ ∃ q, (0 ≤ q ∧ q < m) ∧ K q ∧ cp q = L ∧ bt q v = true)))
theorem mI_0 {K : Int → Prop} {cp : Int → Int} : mI K cp 0 2147483647 (-1) 0 := ⟨⟨by omega, by omega⟩, Or.inl ⟨fun q h1 h2 => by omega, rfl, rfl, rfl⟩⟩
theorem mI_rg {K : Int → Prop} {cp : Int → Int} (hcp : ∀ q, 0 ≤ cp q ∧ cp q ≤ 80000000) {m L A O : Int} (h : mI K cp m L A O) : (0 ≤ L ∧ L < 2147483648) ∧ (-1 ≤ A ∧ A < 32) ∧ (0 ≤ O ∧ O < 32) := by
  obtain ⟨hm, ⟨-, rfl, rfl, rfl⟩ | ⟨⟨q, -, -, h1⟩, -, hA, hO, -⟩⟩ := h
  · exact ⟨⟨by omega, by omega⟩, ⟨by omega, by omega⟩, ⟨by omega, by omega⟩⟩
  · have := hcp q
    exact ⟨⟨by omega, by omega⟩, ⟨by omega, by omega⟩, hO⟩
theorem mI_no {K : Int → Prop} {cp : Int → Int} {m L A O : Int} (h : mI K cp m L A O) (hm : m < 32) (hn : ∀ _ : K m, cp m ≠ L) (hl : ∀ _ : K m, L ≤ cp m) (h1 : ∀ _ : K m, L ≠ 2147483647) : mI K cp (m + 1) L A O := by
  obtain ⟨hr, ⟨h0, rfl, rfl, rfl⟩ | ⟨⟨q, q1, q2, q3⟩, hL, hA, hO, bA, bO⟩⟩ := h
  · refine ⟨⟨by omega, by omega⟩, Or.inl ⟨fun q a1 a2 k => ?_, rfl, rfl, rfl⟩⟩
    by_cases e : q = m
    · subst e; exact h1 k rfl
    · exact h0 q a1 (by omega) k
  · refine ⟨⟨by omega, by omega⟩, Or.inr ⟨⟨q, ⟨q1.1, by omega⟩, q2, q3⟩, fun r r1 r2 k => ?_, hA, hO, fun v hv => ?_, fun v hv => ?_⟩⟩
    · by_cases e : r = m
      · subst e; exact hl k
      · exact hL r r1 (by omega) k
    · rw [bA v hv]
      constructor
      · intro g r r1 r2 k e
        by_cases e2 : r = m
        · subst e2; exact absurd e (hn k)
        · exact g r r1 (by omega) k e
      · exact fun g r r1 r2 k e => g r r1 (by omega) k e
    · rw [bO v hv]
      constructor
      · rintro ⟨r, r1, k, e, b⟩
        exact ⟨r, ⟨r1.1, by omega⟩, k, e, b⟩
      · rintro ⟨r, r1, k, e, b⟩
        by_cases e2 : r = m
        · subst e2; exact absurd e (hn k)
        · exact ⟨r, ⟨r1.1, by omega⟩, k, e, b⟩
theorem mI_lt {K : Int → Prop} {cp : Int → Int} {m L A O : Int} (h : mI K cp m L A O) (hm : m < 32) (k : K m) (hl : cp m < L) : mI K cp (m + 1) (cp m) m m := by
  have low : ∀ q, 0 ≤ q → q < m → K q → L ≤ cp q := by
    obtain ⟨hr, ⟨h0, rfl, rfl, rfl⟩ | ⟨-, hL, -⟩⟩ := h
    · exact fun q a1 a2 k => absurd k (h0 q a1 a2)
    · exact hL
  have hr := h.1
  have one : ∀ r, 0 ≤ r → r < m + 1 → K r → cp r = cp m → r = m := fun r r1 r2 kr e => by
    by_cases e2 : r = m
    · exact e2
    · have := low r r1 (by omega) kr
      omega
  refine ⟨⟨by omega, by omega⟩, Or.inr ⟨⟨m, ⟨hr.1, by omega⟩, k, rfl⟩, fun r r1 r2 kr => ?_, ⟨hr.1, hm⟩, ⟨hr.1, hm⟩, fun v hv => ?_, fun v hv => ?_⟩⟩
  · by_cases e2 : r = m
    · subst e2; exact Int.le_refl _
    · have := low r r1 (by omega) kr
      omega
  · constructor
    · intro g r r1 r2 kr e
      rw [one r r1 r2 kr e]
      exact g
    · exact fun g => g m hr.1 (by omega) k rfl
  · constructor
    · exact fun g => ⟨m, ⟨hr.1, by omega⟩, k, rfl, g⟩
    · rintro ⟨r, r1, kr, e, b⟩
      rw [one r r1.1 r1.2 kr e] at b
      exact b
theorem mI_eq {K : Int → Prop} {cp : Int → Int} {m L A O : Int} (h : mI K cp m L A O) (hm : m < 32) (k : K m) (hl : cp m = L) (hx : L ≠ 2147483647) : (0 ≤ A ∧ 0 ≤ O) ∧ mI K cp (m + 1) L (aI A m) (oI O m) := by
  obtain ⟨hr, ⟨h0, e, -⟩ | ⟨⟨q, q1, q2, q3⟩, hL, hA, hO, bA, bO⟩⟩ := h
  · exact absurd e hx
  · refine ⟨⟨hA.1, hO.1⟩, ⟨by omega, by omega⟩, Or.inr ⟨⟨q, ⟨q1.1, by omega⟩, q2, q3⟩, fun r r1 r2 kr => ?_, ?_, (oI_32 hO ⟨hr.1, hm⟩).1, fun v hv => ?_, fun v hv => ?_⟩⟩
    · by_cases e : r = m
      · subst e; omega
      · exact hL r r1 (by omega) kr
    · have := aI_le hA.1 hr.1
      omega
    · rw [bt_a, Bool.and_eq_true, bA v hv]
      constructor
      · rintro ⟨g, b⟩ r r1 r2 kr e
        by_cases e2 : r = m
        · rw [e2]; exact b
        · exact g r r1 (by omega) kr e
      · exact fun g => ⟨fun r r1 r2 kr e => g r r1 (by omega) kr e, g m hr.1 (by omega) k hl⟩
    · rw [bt_o, Bool.or_eq_true, bO v hv]
      constructor
      · rintro (⟨r, r1, kr, e, b⟩ | b)
        · exact ⟨r, ⟨r1.1, by omega⟩, kr, e, b⟩
        · exact ⟨m, ⟨hr.1, by omega⟩, k, hl, b⟩
      · rintro ⟨r, r1, kr, e, b⟩
        by_cases e2 : r = m
        · right; rw [← e2]; exact b
        · left; exact ⟨r, ⟨r1.1, by omega⟩, kr, e, b⟩
/-! the least and the greatest of a set of numbers -/
theorem least_of (M : Int → Prop) : ∀ n : Nat, (∃ q, M q ∧ 0 ≤ q ∧ q < n) → ∃ q, M q ∧ 0 ≤ q ∧ ∀ r, M r → 0 ≤ r → q ≤ r
  | 0, ⟨q, _, h1, h2⟩ => by omega
  | n + 1, ⟨q, hq, h1, h2⟩ => by
    by_cases e : ∃ q, M q ∧ 0 ≤ q ∧ q < (n : Int)
    · exact least_of M n e
    · refine ⟨q, hq, h1, fun r hr r0 => ?_⟩
      by_cases g : r < (n : Int)
      · exact absurd ⟨r, hr, r0, g⟩ e
      · omega
theorem greatest_of (M : Int → Prop) (N : Int) (hN : ∀ q, M q → q < N) : ∀ n : Nat, (∃ q, M q ∧ N - n ≤ q) → ∃ q, M q ∧ ∀ r, M r → r ≤ q
  | 0, ⟨q, hq, h1⟩ => by have := hN q hq; omega
  | n + 1, ⟨q, hq, h1⟩ => by
    by_cases e : ∃ q, M q ∧ N - (n : Int) ≤ q
    · exact greatest_of M N hN n e
    · refine ⟨q, hq, fun r hr => ?_⟩
      by_cases g : N - (n : Int) ≤ r
      · exact absurd ⟨r, hr, g⟩ e
      · omega
/-- a mask of a cut -/
def vq (s t q : Int) : Prop := bt q s = true ∧ ¬ bt q t = true
/-- a network of five nodes -/
def n5 (m : Nat) (tl hd c : Int → Int) : Prop := m ≤ 80 ∧ ∀ a : Int, 0 ≤ a → a < m → ((0 ≤ tl a ∧ tl a < 5) ∧ (0 ≤ hd a ∧ hd a < 5)) ∧ (0 ≤ c a ∧ c a ≤ 1000000)
section CUTS
variable {m : Nat} {tl hd c : Int → Int} {s t L A O : Int}
theorem n5_cp (h : n5 m tl hd c) (X : Int → Bool) : 0 ≤ gcp m tl hd c X ∧ gcp m tl hd c X ≤ 80000000 := by
  refine ⟨gcp_nn (fun a a0 a1 => (h.2 a a0 a1).2.1) X, sm_80 h.1 fun a a0 a1 => ?_⟩
  have := (h.2 a a0 a1).2
  show (if X (tl a) = true ∧ ¬ X (hd a) = true then c a else 0) ≤ 1000000
  split <;> omega
theorem n5_on (h : n5 m tl hd c) {X Y : Int → Bool} (e : ∀ v, 0 ≤ v → v < 5 → X v = Y v) : gcp m tl hd c X = gcp m tl hd c Y := gcp_on (fun a a0 a1 => (h.2 a a0 a1).1) e
def mE (m : Nat) (tl hd c : Int → Int) (s t L A O : Int) : Prop := mI (vq s t) (fun q => gcp m tl hd c (bt q)) 32 L A O
theorem mE_two (hs : 0 ≤ s ∧ s < 5) (ht : 0 ≤ t ∧ t < 5) (hst : s ≠ t) (h : mE m tl hd c s t L A O) : (∃ q, (0 ≤ q ∧ q < 32) ∧ vq s t q ∧ gcp m tl hd c (bt q) = L) ∧ (∀ q, 0 ≤ q → q < 32 → vq s t q → L ≤ gcp m tl hd c (bt q)) ∧ (0 ≤ A ∧ A < 32) ∧ (0 ≤ O ∧ O < 32) ∧ (∀ v, 0 ≤ v → (bt A v = true ↔ ∀ q, 0 ≤ q → q < 32 → vq s t q → gcp m tl hd c (bt q) = L → bt q v = true)) ∧ ∀ v, 0 ≤ v → (bt O v = true ↔ ∃ q, (0 ≤ q ∧ q < 32) ∧ vq s t q ∧ gcp m tl hd c (bt q) = L ∧ bt q v = true) := by
  obtain ⟨-, ⟨h0, -⟩ | h⟩ := h
  · obtain ⟨q, q1, q2⟩ := mk5 (fun v => decide (v = s))
    refine absurd ⟨?_, ?_⟩ (h0 q q1.1 q1.2)
    · rw [q2 s hs.1 hs.2]; exact decide_eq_true rfl
    · rw [q2 t ht.1 ht.2]; exact fun e => hst (of_decide_eq_true e).symm
  · exact h
theorem mE_min (hn : n5 m tl hd c) (hs : 0 ≤ s ∧ s < 5) (ht : 0 ≤ t ∧ t < 5) (hst : s ≠ t) (h : mE m tl hd c s t L A O) : isMn m tl hd c s t L := by
  obtain ⟨⟨q, q1, q2, q3⟩, hL, -⟩ := mE_two hs ht hst h
  refine ⟨⟨bt q, q2.1, q2.2, q3⟩, fun X x1 x2 => ?_⟩
  obtain ⟨r, r1, r2⟩ := mk5 X
  rw [← n5_on hn r2]
  exact hL r r1.1 r1.2 ⟨by rw [r2 s hs.1 hs.2]; exact x1, by rw [r2 t ht.1 ht.2]; exact x2⟩
theorem mE_mc (hn : n5 m tl hd c) (hs : 0 ≤ s ∧ s < 5) (ht : 0 ≤ t ∧ t < 5) (hst : s ≠ t) (h : mE m tl hd c s t L A O) {X : Int → Bool} (x1 : X s = true) (x2 : ¬ X t = true) : mcut m tl hd c s t X ↔ gcp m tl hd c X = L := by
  have hM := mE_min hn hs ht hst h
  constructor
  · exact fun k => mcut_val hM k
  · exact fun e => ⟨x1, x2, fun Y y1 y2 => by rw [e]; exact hM.2 Y y1 y2⟩
theorem mE_sm (hn : n5 m tl hd c) (hs : 0 ≤ s ∧ s < 5) (ht : 0 ≤ t ∧ t < 5) (hst : s ≠ t) (h : mE m tl hd c s t L A O) {z : Int} (hz : mk24 z ∧ ∀ v, 0 ≤ v → (bt z v = true ↔ ∀ X, mcut m tl hd c s t X → X v = true)) : z = A := by
  obtain ⟨⟨q, q1, q2, q3⟩, hL, hA, hO, bA, bO⟩ := mE_two hs ht hst h
  refine bt_ext hz.1.1 hA.1 fun v hv => ?_
  rw [Bool.eq_iff_iff, hz.2 v hv, bA v hv]
  constructor
  · intro g r r1 r2 r3 r4
    exact g (bt r) ((mE_mc hn hs ht hst h r3.1 r3.2).mpr r4)
  · intro g X k
    by_cases hv5 : v < 5
    · obtain ⟨r, r1, r2⟩ := mk5 X
      rw [← r2 v hv hv5]
      refine g r r1.1 r1.2 ⟨by rw [r2 s hs.1 hs.2]; exact k.1, by rw [r2 t ht.1 ht.2]; exact k.2.1⟩ ?_
      rw [n5_on hn r2]
      exact (mE_mc hn hs ht hst h k.1 k.2.1).mp k
    · have := g q q1.1 q1.2 q2 q3
      rw [bt_32 q1.2 (by omega)] at this
      cases this
theorem mE_gt (hn : n5 m tl hd c) (hs : 0 ≤ s ∧ s < 5) (ht : 0 ≤ t ∧ t < 5) (hst : s ≠ t) (h : mE m tl hd c s t L A O) {z : Int} (hz : mk24 z ∧ ∀ v, 0 ≤ v → (bt z v = true ↔ v < 5 ∧ ∃ X, mcut m tl hd c s t X ∧ X v = true)) : z = O := by
  obtain ⟨⟨q, q1, q2, q3⟩, hL, hA, hO, bA, bO⟩ := mE_two hs ht hst h
  refine bt_ext hz.1.1 hO.1 fun v hv => ?_
  rw [Bool.eq_iff_iff, hz.2 v hv, bO v hv]
  constructor
  · rintro ⟨hv5, X, k, kv⟩
    obtain ⟨r, r1, r2⟩ := mk5 X
    refine ⟨r, r1, ⟨by rw [r2 s hs.1 hs.2]; exact k.1, by rw [r2 t ht.1 ht.2]; exact k.2.1⟩, ?_, by rw [r2 v hv hv5]; exact kv⟩
    rw [n5_on hn r2]
    exact (mE_mc hn hs ht hst h k.1 k.2.1).mp k
  · rintro ⟨r, r1, r2, r3, r4⟩
    refine ⟨?_, bt r, (mE_mc hn hs ht hst h r2.1 r2.2).mpr r3, r4⟩
    by_cases hv5 : v < 5
    · exact hv5
    · rw [bt_32 r1.2 (by omega)] at r4
      cases r4
/-- two minimum cuts: what both have, and what one of them has -/
theorem mE_lat (hn : n5 m tl hd c) (hs : 0 ≤ s ∧ s < 5) (ht : 0 ≤ t ∧ t < 5) (hst : s ≠ t) (h : mE m tl hd c s t L A O) {q r : Int} (q2 : vq s t q) (q3 : gcp m tl hd c (bt q) = L) (r2 : vq s t r) (r3 : gcp m tl hd c (bt r) = L) : (vq s t (aI q r) ∧ gcp m tl hd c (bt (aI q r)) = L) ∧ vq s t (oI q r) ∧ gcp m tl hd c (bt (oI q r)) = L := by
  have hM := mE_min hn hs ht hst h
  have h1 : bt (aI q r) = fun v => bt q v && bt r v := funext fun v => bt_a
  have h2 : bt (oI q r) = fun v => bt q v || bt r v := funext fun v => bt_o
  have v1 : vq s t (aI q r) := by
    unfold vq
    rw [bt_a, bt_a, q2.1, r2.1]
    refine ⟨rfl, fun e => q2.2 ?_⟩
    rw [Bool.and_eq_true] at e
    exact e.1
  have v2 : vq s t (oI q r) := by
    unfold vq
    rw [bt_o, bt_o, q2.1]
    refine ⟨rfl, fun e => ?_⟩
    rw [Bool.or_eq_true] at e
    exact e.elim q2.2 r2.2
  have g := gcp_sub (fun a a0 a1 => (hn.2 a a0 a1).2.1) (tl := tl) (hd := hd) (bt q) (bt r)
  rw [← h1, ← h2] at g
  have g1 := hM.2 _ v1.1 v1.2
  have g2 := hM.2 _ v2.1 v2.2
  exact ⟨⟨v1, by omega⟩, v2, by omega⟩
theorem mE_A (hn : n5 m tl hd c) (hs : 0 ≤ s ∧ s < 5) (ht : 0 ≤ t ∧ t < 5) (hst : s ≠ t) (h : mE m tl hd c s t L A O) : ((0 ≤ A ∧ A < 32) ∧ vq s t A) ∧ gcp m tl hd c (bt A) = L := by
  obtain ⟨⟨q, q1, q2, q3⟩, hL, hA, hO, bA, bO⟩ := mE_two hs ht hst h
  obtain ⟨p, ⟨p1, p2, p3⟩, -, hp⟩ := least_of (fun q => (0 ≤ q ∧ q < 32) ∧ vq s t q ∧ gcp m tl hd c (bt q) = L) 32 ⟨q, ⟨q1, q2, q3⟩, q1.1, q1.2⟩
  have sub : ∀ r, 0 ≤ r → r < 32 → vq s t r → gcp m tl hd c (bt r) = L → aI p r = p := fun r r0 r1 r2 r3 => by
    have g := (mE_lat hn hs ht hst h p2 p3 r2 r3).1
    have b := aI_le p1.1 r0
    have := hp (aI p r) ⟨⟨b.1, by omega⟩, g.1, g.2⟩ b.1
    omega
  have e : A = p := bt_ext hA.1 p1.1 fun v hv => by
    rw [Bool.eq_iff_iff, bA v hv]
    constructor
    · exact fun g => g p p1.1 p1.2 p2 p3
    · intro g r r0 r1 r2 r3
      rw [← sub r r0 r1 r2 r3, bt_a, Bool.and_eq_true] at g
      exact g.2
  rw [e]
  exact ⟨⟨p1, p2⟩, p3⟩
theorem mE_O (hn : n5 m tl hd c) (hs : 0 ≤ s ∧ s < 5) (ht : 0 ≤ t ∧ t < 5) (hst : s ≠ t) (h : mE m tl hd c s t L A O) : ((0 ≤ O ∧ O < 32) ∧ vq s t O) ∧ gcp m tl hd c (bt O) = L := by
  obtain ⟨⟨q, q1, q2, q3⟩, hL, hA, hO, bA, bO⟩ := mE_two hs ht hst h
  obtain ⟨p, ⟨p1, p2, p3⟩, hp⟩ := greatest_of (fun q => (0 ≤ q ∧ q < 32) ∧ vq s t q ∧ gcp m tl hd c (bt q) = L) 32 (fun q h => h.1.2) 32 ⟨q, ⟨q1, q2, q3⟩, by omega⟩
  have sub : ∀ r, 0 ≤ r → r < 32 → vq s t r → gcp m tl hd c (bt r) = L → oI p r = p := fun r r0 r1 r2 r3 => by
    have g := (mE_lat hn hs ht hst h p2 p3 r2 r3).2
    have b := oI_32 p1 ⟨r0, r1⟩
    have := hp (oI p r) ⟨b.1, g.1, g.2⟩
    omega
  have e : O = p := bt_ext hO.1 p1.1 fun v hv => by
    rw [Bool.eq_iff_iff, bO v hv]
    constructor
    · rintro ⟨r, ⟨r0, r1⟩, r2, r3, r4⟩
      rw [← sub r r0 r1 r2 r3, bt_o, r4, Bool.or_true]
    · exact fun g => ⟨p, p1, p2, p3, g⟩
  rw [e]
  exact ⟨⟨p1, p2⟩, p3⟩
/-! the flows of one arc -/
theorem gf_cut (hc : ∀ a : Int, 0 ≤ a → a < m → 0 ≤ c a) {F z a : Int} (hM : isMn m tl hd c s t F) (ha : 0 ≤ a ∧ a < m) (hz : z = c a ∨ ∃ X : Int → Bool, X (hd a) = true ∧ ¬ X (tl a) = true ∧ ind X s F - ind X t F + z = gcp m tl hd c X) (X : Int → Bool) (x1 : X s = true) (x2 : ¬ X t = true) (x3 : X (tl a) = true) (x4 : ¬ X (hd a) = true) : F ≤ gcp m tl hd c X + (z - c a) := by
  rcases hz with rfl | ⟨Y, y1, y2, y3⟩
  · have := hM.2 X x1 x2
    omega
  · have g := gcp_sub2 hc Y X ha y1 y2 x3 x4
    have n1 := gcp_nn hc (tl := tl) (hd := hd) (fun v => Y v && X v)
    have n2 := gcp_nn hc (tl := tl) (hd := hd) (fun v => Y v || X v)
    rw [Bool.not_eq_true] at x2
    have a1 : ind Y s F ≤ gcp m tl hd c (fun v => Y v && X v) := by
      unfold ind
      split
      · rename_i q
        exact hM.2 (fun v => Y v && X v) (by show (Y s && X s) = true; rw [q, x1]; rfl) (by show ¬ (Y t && X t) = true; rw [x2, Bool.and_false]; decide)
      · exact n1
    have a2 : F - ind Y t F ≤ gcp m tl hd c (fun v => Y v || X v) := by
      unfold ind
      split
      · omega
      · rename_i q
        have := hM.2 (fun v => Y v || X v) (by show (Y s || X s) = true; rw [x1, Bool.or_true]) (by show ¬ (Y t || X t) = true; rw [x2, Bool.or_false]; exact q)
        omega
    omega
theorem gf_nn (hc : ∀ a : Int, 0 ≤ a → a < m → 0 ≤ c a) {F z a : Int} (hM : isMn m tl hd c s t F) (ha : 0 ≤ a ∧ a < m) (hz : z = c a ∨ ∃ X : Int → Bool, X (hd a) = true ∧ ¬ X (tl a) = true ∧ ind X s F - ind X t F + z = gcp m tl hd c X) : 0 ≤ z := by
  have hF : 0 ≤ F := by
    obtain ⟨⟨X, -, -, e⟩, -⟩ := hM
    rw [← e]
    exact gcp_nn hc X
  rcases hz with rfl | ⟨Y, y1, y2, y3⟩
  · exact hc a ha.1 ha.2
  · have n1 := gcp_nn hc (tl := tl) (hd := hd) Y
    by_cases q1 : Y s = true
    · by_cases q2 : Y t = true
      · rw [ind_t q1, ind_t q2] at y3
        omega
      · have := hM.2 Y q1 q2
        rw [ind_t q1, ind_f q2] at y3
        omega
    · by_cases q2 : Y t = true
      · rw [ind_f q1, ind_t q2] at y3
        omega
      · rw [ind_f q1, ind_f q2] at y3
        omega
/-- with the greatest flow of an arc as its capacity the maximum stays -/
theorem gf_with (hc : ∀ a : Int, 0 ≤ a → a < m → 0 ≤ c a) {F z a w : Int} (hM : isMn m tl hd c s t F) (ha : 0 ≤ a ∧ a < m) (hle : z ≤ c a) (hz : z = c a ∨ ∃ X : Int → Bool, X (hd a) = true ∧ ¬ X (tl a) = true ∧ ind X s F - ind X t F + z = gcp m tl hd c X) (hw : isMn m tl hd (updC c a z) s t w) : w = F := by
  have low : ∀ X : Int → Bool, X s = true → ¬ X t = true → F ≤ gcp m tl hd (updC c a z) X := fun X x1 x2 => by
    rw [gcp_upd ha]
    split
    · rename_i q
      exact gf_cut hc hM ha hz X x1 x2 q.1 q.2
    · have := hM.2 X x1 x2
      omega
  refine isMn_one hw ⟨?_, low⟩
  obtain ⟨⟨X, x1, x2, x3⟩, -⟩ := hM
  refine ⟨X, x1, x2, ?_⟩
  have h1 := low X x1 x2
  rw [gcp_upd ha] at h1 ⊢
  split
  · rename_i q
    rw [if_pos q] at h1
    omega
  · omega
theorem le_nn (hc : ∀ a : Int, 0 ≤ a → a < m → 0 ≤ c a) {F G a : Int} (hM : isMn m tl hd c s t F) (ha : 0 ≤ a ∧ a < m) (hG : isMn m tl hd (updC c a 0) s t G) : 0 ≤ F - G := by
  obtain ⟨⟨X, x1, x2, x3⟩, -⟩ := hM
  have h1 := hG.2 X x1 x2
  have := hc a ha.1 ha.2
  rw [gcp_upd ha] at h1
  split at h1 <;> omega
theorem le_gf (hc : ∀ a : Int, 0 ≤ a → a < m → 0 ≤ c a) {F G a z : Int} (hM : isMn m tl hd c s t F) (ha : 0 ≤ a ∧ a < m) (hG : isMn m tl hd (updC c a 0) s t G) (hz : z = c a ∨ ∃ X : Int → Bool, X (hd a) = true ∧ ¬ X (tl a) = true ∧ ind X s F - ind X t F + z = gcp m tl hd c X) : F - G ≤ z := by
  have h0 := gf_nn hc hM ha hz
  obtain ⟨⟨X, x1, x2, x3⟩, -⟩ := hG
  have h1 := hM.2 X x1 x2
  rw [gcp_upd ha] at x3
  split at x3
  · rename_i q
    have := gf_cut hc hM ha hz X x1 x2 q.1 q.2
    omega
  · omega
end CUTS
