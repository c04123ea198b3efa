/-! bits of a set -/
theorem bt_one {k i : Nat} (hk : k < 32) : bt ((1 : Int32) <<< (nI k &&& 31)) i = decide (i = k) := by
  rcases Nat.lt_or_ge i 32 with h | h
  · rw [b_shl k hk 1 h]
    have h1 : ∀ m, m < 32 → bt 1 m = decide (m = 0) := by decide
    rw [h1 (i - k) (by omega)]
    by_cases hki : k ≤ i
    · by_cases e : i = k
      · subst e; simp
      · have : ¬ (i - k = 0) := by omega
        simp [hki, e, this]
    · have e : ¬ (i = k) := by omega
      simp [hki, e]
  · rw [b_big h]
    have e : ¬ (i = k) := by omega
    simp [e]
theorem bt_not {x : Int32} {i : Nat} (hi : i < 32) : bt (x ^^^ (-1)) i = !bt x i := by
  rw [b_xor, b_m1 i hi]
  cases bt x i <;> rfl
theorem bt_andn {x y : Int32} {i : Nat} : bt (x &&& (y ^^^ (-1))) i = (bt x i && !bt y i) := by
  rcases Nat.lt_or_ge i 32 with h | h
  · rw [b_and, bt_not h]
  · rw [b_and, b_big h, b_big h, b_big h]; rfl
theorem bt_ext {x y : Int32} (h : ∀ i, bt x i = bt y i) : x = y := b_ext (fun i _ => h i)
theorem bt_ext2 {x y : Int32} (h : ∀ i, bt x i = true ↔ bt y i = true) : x = y := bt_ext (fun i => by
  have := h i
  cases h1 : bt x i <;> cases h2 : bt y i <;> simp_all)
theorem bt_z {x : Int32} : x = 0 ↔ ∀ i, bt x i = false := ⟨fun h i => by rw [h]; exact b_0 i, fun h => bt_ext (fun i => by rw [h i, b_0])⟩
theorem bt_and0 {x y : Int32} : x &&& y = 0 ↔ ∀ i, bt x i = true → bt y i = false := by
  rw [bt_z]
  constructor
  · intro h i hi
    have := h i
    rw [b_and, hi] at this
    simpa using this
  · intro h i
    rw [b_and]
    cases hx : bt x i with
    | false => rfl
    | true => rw [h i hx]; rfl
theorem bt_and1 {x y : Int32} : ¬ x &&& y = 0 ↔ ∃ i, bt x i = true ∧ bt y i = true := by
  rw [bt_and0]
  constructor
  · intro h
    refine Classical.byContradiction (fun q => h (fun i hi => ?_))
    cases hy : bt y i with
    | false => rfl
    | true => exact absurd ⟨i, hi, hy⟩ q
  · intro ⟨i, h1, h2⟩ h
    rw [h i h1] at h2
    cases h2
theorem bt_low {n i : Nat} (hn : n < 31) : bt (((1 : Int32) <<< (nI n &&& 31)) - 1) i = decide (i < n) := by
  have key : ∀ n, n < 31 → ∀ i, i < 32 → bt (((1 : Int32) <<< (nI n &&& 31)) - 1) i = decide (i < n) := by decide +kernel
  rcases Nat.lt_or_ge i 32 with h | h
  · exact key n hn i h
  · rw [b_big h]
    have : ¬ i < n := by omega
    simp [this]
theorem anA_bt {be : Nat → Int32} {set : Int32} : ∀ {n : Nat} (hn : n ≤ 14) (x : Nat), bt (anA be set n) x = true ↔ bt set x = true ∨ (x < n ∧ ∃ m, bt (be x) m = true ∧ bt set m = true)
  | 0, _, x => by simp [anA]
  | n + 1, hn, x => by
    have ih := anA_bt (be := be) (set := set) (n := n) (by omega) x
    simp only [anA]
    split
    · rename_i h
      rw [ih]
      constructor
      · rintro (h1 | ⟨h1, h2⟩)
        · exact Or.inl h1
        · exact Or.inr ⟨by omega, h2⟩
      · rintro (h1 | ⟨h1, h2⟩)
        · exact Or.inl h1
        · by_cases e : x = n
          · subst e
            exact absurd (bt_and1.mpr h2) (fun q => q h)
          · exact Or.inr ⟨by omega, h2⟩
    · rename_i h
      rw [b_or, bt_one (by omega), Bool.or_eq_true, ih, decide_eq_true_eq]
      constructor
      · rintro ((h1 | ⟨h1, h2⟩) | h1)
        · exact Or.inl h1
        · exact Or.inr ⟨by omega, h2⟩
        · subst h1; exact Or.inr ⟨by omega, bt_and1.mp h⟩
      · rintro (h1 | ⟨h1, h2⟩)
        · exact Or.inl (Or.inl h1)
        · by_cases e : x = n
          · exact Or.inr e
          · exact Or.inl (Or.inr ⟨by omega, h2⟩)
theorem anB_bt {be : Nat → Int32} {set : Int32} : ∀ {n : Nat} (x : Nat), bt (anB be set n) x = true ↔ bt set x = true ∨ ∃ k, k < n ∧ bt set k = true ∧ bt (be k) x = true
  | 0, x => by simp [anB]
  | n + 1, x => by
    have ih := anB_bt (be := be) (set := set) (n := n) x
    simp only [anB]
    split
    · rename_i h
      rw [b_or, Bool.or_eq_true, ih]
      constructor
      · rintro ((h1 | ⟨k, h1, h2, h3⟩) | h1)
        · exact Or.inl h1
        · exact Or.inr ⟨k, by omega, h2, h3⟩
        · exact Or.inr ⟨n, by omega, h, h1⟩
      · rintro (h1 | ⟨k, h1, h2, h3⟩)
        · exact Or.inl (Or.inl h1)
        · by_cases e : k = n
          · subst e; exact Or.inr h3
          · exact Or.inl (Or.inr ⟨k, by omega, h2, h3⟩)
    · rename_i h
      rw [ih]
      constructor
      · rintro (h1 | ⟨k, h1, h2, h3⟩)
        · exact Or.inl h1
        · exact Or.inr ⟨k, by omega, h2, h3⟩
      · rintro (h1 | ⟨k, h1, h2, h3⟩)
        · exact Or.inl h1
        · by_cases e : k = n
          · subst e; exact absurd h2 h
          · exact Or.inr ⟨k, by omega, h2, h3⟩
theorem lkU_bt {f : Nat → Int32} {set add : Int32} {n j x : Nat} : bt (lkU f set add n j) x = true ↔ bt (f j) x = true ∨ (j < n ∧ bt set j = true ∧ bt add x = true) := by
  unfold lkU
  by_cases h : j < n
  · by_cases h2 : bt set j = true
    · simp [h, h2, b_or]
    · simp [h, h2]
  · simp [h]
theorem stU_bt {f : Nat → Int32} {set : Int32} {n j x : Nat} : bt (stU f set n j) x = true ↔ (j < n ∧ bt set j = true ∧ bt set x = true) ∨ (¬ (j < n ∧ bt set j = true) ∧ bt (f j) x = true) := by
  unfold stU
  by_cases h : j < n
  · by_cases h2 : bt set j = true
    · simp [h, h2]
    · simp [h, h2]
  · simp [h]
/-! which are the same (E), which are later (L): closed, and kept so -/
def RA (E L : Nat → Nat → Prop) : Prop := (∀ a b, E a b → E b a) ∧ (∀ a b c, E a b → E b c → E a c) ∧ (∀ a, ¬ L a a) ∧ (∀ a b c, L a b → L b c → L a c) ∧ (∀ a b c, E a b → L a c → L b c) ∧ (∀ a b c, L a b → E b c → L a c)
theorem RA_above {E L L2 : Nat → Nat → Prop} {i j : Nat} (h : RA E L) (hi : E i i) (hj : E j j) (h1 : ¬ E i j) (h2 : ¬ L j i) (hL : ∀ x y, L2 x y ↔ L x y ∨ ((E i x ∨ L x i) ∧ (E j y ∨ L j y))) : RA E L2 := by
  obtain ⟨es, et, li, lt, l3, l4⟩ := h
  have U1 : ∀ a b, E a b → (E i a ∨ L a i) → (E i b ∨ L b i) := fun a b q r => r.elim (fun r => Or.inl (et _ _ _ r q)) (fun r => Or.inr (l3 _ _ _ q r))
  have D1 : ∀ a b, E a b → (E j a ∨ L j a) → (E j b ∨ L j b) := fun a b q r => r.elim (fun r => Or.inl (et _ _ _ r q)) (fun r => Or.inr (l4 _ _ _ r q))
  have U2 : ∀ a b, L a b → (E i b ∨ L b i) → L a i := fun a b q r => r.elim (fun r => l4 _ _ _ q (es _ _ r)) (fun r => lt _ _ _ q r)
  have D2 : ∀ a b, L a b → (E j a ∨ L j a) → L j b := fun a b q r => r.elim (fun r => l3 _ _ _ (es _ _ r) q) (fun r => lt _ _ _ r q)
  have UD : ∀ a, (E i a ∨ L a i) → (E j a ∨ L j a) → False := fun a r q => by
    rcases r with r | r <;> rcases q with q | q
    · exact h1 (et _ _ _ r (es _ _ q))
    · exact h2 (l4 _ _ _ q (es _ _ r))
    · exact h2 (l3 _ _ _ (es _ _ q) r)
    · exact h2 (lt _ _ _ q r)
  refine ⟨es, et, fun a q => ?_, fun a b c q r => ?_, fun a b c q r => ?_, fun a b c q r => ?_⟩
  · rcases (hL a a).mp q with q | ⟨q1, q2⟩
    · exact li a q
    · exact UD a q1 q2
  · rcases (hL a b).mp q with q | ⟨q1, q2⟩ <;> rcases (hL b c).mp r with r | ⟨r1, r2⟩
    · exact (hL a c).mpr (Or.inl (lt _ _ _ q r))
    · exact (hL a c).mpr (Or.inr ⟨Or.inr (U2 a b q r1), r2⟩)
    · exact (hL a c).mpr (Or.inr ⟨q1, Or.inr (D2 b c r q2)⟩)
    · exact (hL a c).mpr (Or.inr ⟨q1, r2⟩)
  · rcases (hL a c).mp r with r | ⟨r1, r2⟩
    · exact (hL b c).mpr (Or.inl (l3 _ _ _ q r))
    · exact (hL b c).mpr (Or.inr ⟨U1 a b q r1, r2⟩)
  · rcases (hL a b).mp q with q | ⟨q1, q2⟩
    · exact (hL a c).mpr (Or.inl (l4 _ _ _ q r))
    · exact (hL a c).mpr (Or.inr ⟨q1, D1 b c r q2⟩)
theorem RA_same {E L E2 L2 : Nat → Nat → Prop} {i j : Nat} (h : RA E L) (hi : E i i) (hj : E j j) (h1 : ¬ L i j) (h2 : ¬ L j i) (hE : ∀ x y, E2 x y ↔ E x y ∨ ((E i x ∨ E j x) ∧ (E i y ∨ E j y)))
    (hL : ∀ x y, L2 x y ↔ L x y ∨ ((E i x ∨ E j x ∨ L x i ∨ L x j) ∧ (L i y ∨ L j y)) ∨ ((L x i ∨ L x j) ∧ (E i y ∨ E j y))) : RA E2 L2 := by
  obtain ⟨es, et, li, lt, l3, l4⟩ := h
  have J1 : ∀ a b, E a b → (E i a ∨ E j a) → (E i b ∨ E j b) := fun a b q r => r.elim (fun r => Or.inl (et _ _ _ r q)) (fun r => Or.inr (et _ _ _ r q))
  have U1 : ∀ a b, E a b → (L a i ∨ L a j) → (L b i ∨ L b j) := fun a b q r => r.elim (fun r => Or.inl (l3 _ _ _ q r)) (fun r => Or.inr (l3 _ _ _ q r))
  have D1 : ∀ a b, E a b → (L i a ∨ L j a) → (L i b ∨ L j b) := fun a b q r => r.elim (fun r => Or.inl (l4 _ _ _ r q)) (fun r => Or.inr (l4 _ _ _ r q))
  have UJ : ∀ a b, L a b → (E i b ∨ E j b) → (L a i ∨ L a j) := fun a b q r => r.elim (fun r => Or.inl (l4 _ _ _ q (es _ _ r))) (fun r => Or.inr (l4 _ _ _ q (es _ _ r)))
  have UU : ∀ a b, L a b → (L b i ∨ L b j) → (L a i ∨ L a j) := fun a b q r => r.elim (fun r => Or.inl (lt _ _ _ q r)) (fun r => Or.inr (lt _ _ _ q r))
  have DJ : ∀ a b, L a b → (E i a ∨ E j a) → (L i b ∨ L j b) := fun a b q r => r.elim (fun r => Or.inl (l3 _ _ _ (es _ _ r) q)) (fun r => Or.inr (l3 _ _ _ (es _ _ r) q))
  have DD : ∀ a b, L a b → (L i a ∨ L j a) → (L i b ∨ L j b) := fun a b q r => r.elim (fun r => Or.inl (lt _ _ _ r q)) (fun r => Or.inr (lt _ _ _ r q))
  have nJD : ∀ a, (E i a ∨ E j a) → (L i a ∨ L j a) → False := fun a r q => by
    rcases r with r | r <;> rcases q with q | q
    · exact li i (l4 _ _ _ q (es _ _ r))
    · exact h2 (l4 _ _ _ q (es _ _ r))
    · exact h1 (l4 _ _ _ q (es _ _ r))
    · exact li j (l4 _ _ _ q (es _ _ r))
  have nJU : ∀ a, (E i a ∨ E j a) → (L a i ∨ L a j) → False := fun a r q => by
    rcases r with r | r <;> rcases q with q | q
    · exact li i (l3 _ _ _ (es _ _ r) q)
    · exact h1 (l3 _ _ _ (es _ _ r) q)
    · exact h2 (l3 _ _ _ (es _ _ r) q)
    · exact li j (l3 _ _ _ (es _ _ r) q)
  have nUD : ∀ a, (L a i ∨ L a j) → (L i a ∨ L j a) → False := fun a r q => by
    rcases r with r | r <;> rcases q with q | q
    · exact li i (lt _ _ _ q r)
    · exact h2 (lt _ _ _ q r)
    · exact h1 (lt _ _ _ q r)
    · exact li j (lt _ _ _ q r)
  -- later, in three cases
  have hL' : ∀ x y, L2 x y ↔ L x y ∨ ((E i x ∨ E j x) ∧ (L i y ∨ L j y)) ∨ ((L x i ∨ L x j) ∧ ((E i y ∨ E j y) ∨ (L i y ∨ L j y))) := by
    intro x y
    rw [hL]
    constructor
    · rintro (q | ⟨q | q | q, r⟩ | ⟨q, r⟩)
      · exact Or.inl q
      · exact Or.inr (Or.inl ⟨Or.inl q, r⟩)
      · exact Or.inr (Or.inl ⟨Or.inr q, r⟩)
      · exact Or.inr (Or.inr ⟨q, Or.inr r⟩)
      · exact Or.inr (Or.inr ⟨q, Or.inl r⟩)
    · rintro (q | ⟨q | q, r⟩ | ⟨q, r | r⟩)
      · exact Or.inl q
      · exact Or.inr (Or.inl ⟨Or.inl q, r⟩)
      · exact Or.inr (Or.inl ⟨Or.inr (Or.inl q), r⟩)
      · exact Or.inr (Or.inr ⟨q, r⟩)
      · exact Or.inr (Or.inl ⟨Or.inr (Or.inr q), r⟩)
  refine ⟨fun a b q => ?_, fun a b c q r => ?_, fun a q => ?_, fun a b c q r => ?_, fun a b c q r => ?_, fun a b c q r => ?_⟩
  · rcases (hE a b).mp q with q | ⟨q1, q2⟩
    · exact (hE b a).mpr (Or.inl (es _ _ q))
    · exact (hE b a).mpr (Or.inr ⟨q2, q1⟩)
  · rcases (hE a b).mp q with q | ⟨q1, q2⟩ <;> rcases (hE b c).mp r with r | ⟨r1, r2⟩
    · exact (hE a c).mpr (Or.inl (et _ _ _ q r))
    · exact (hE a c).mpr (Or.inr ⟨J1 b a (es _ _ q) r1, r2⟩)
    · exact (hE a c).mpr (Or.inr ⟨q1, J1 b c r q2⟩)
    · exact (hE a c).mpr (Or.inr ⟨q1, r2⟩)
  · rcases (hL' a a).mp q with q | ⟨q1, q2⟩ | ⟨q1, q2 | q2⟩
    · exact li a q
    · exact nJD a q1 q2
    · exact nJU a q2 q1
    · exact nUD a q1 q2
  · rw [hL'] at q r ⊢
    rcases q with q | ⟨q1, q2⟩ | ⟨q1, q2⟩
    · rcases r with r | ⟨r1, r2⟩ | ⟨r1, r2⟩
      · exact Or.inl (lt _ _ _ q r)
      · exact Or.inr (Or.inr ⟨UJ a b q r1, Or.inr r2⟩)
      · exact Or.inr (Or.inr ⟨UU a b q r1, r2⟩)
    · rcases r with r | ⟨r1, r2⟩ | ⟨r1, r2⟩
      · exact Or.inr (Or.inl ⟨q1, DD b c r q2⟩)
      · exact (nJD b r1 q2).elim
      · exact (nUD b r1 q2).elim
    · rcases r with r | ⟨r1, r2⟩ | ⟨r1, r2⟩
      · rcases q2 with q2 | q2
        · exact Or.inr (Or.inr ⟨q1, Or.inr (DJ b c r q2)⟩)
        · exact Or.inr (Or.inr ⟨q1, Or.inr (DD b c r q2)⟩)
      · exact Or.inr (Or.inr ⟨q1, Or.inr r2⟩)
      · exact Or.inr (Or.inr ⟨q1, r2⟩)
  · rw [hL'] at r ⊢
    rcases (hE a b).mp q with q | ⟨q1, q2⟩
    · rcases r with r | ⟨r1, r2⟩ | ⟨r1, r2⟩
      · exact Or.inl (l3 _ _ _ q r)
      · exact Or.inr (Or.inl ⟨J1 a b q r1, r2⟩)
      · exact Or.inr (Or.inr ⟨U1 a b q r1, r2⟩)
    · rcases r with r | ⟨r1, r2⟩ | ⟨r1, r2⟩
      · exact Or.inr (Or.inl ⟨q2, DJ a c r q1⟩)
      · exact Or.inr (Or.inl ⟨q2, r2⟩)
      · exact (nJU a q1 r1).elim
  · rw [hL'] at q ⊢
    rcases (hE b c).mp r with r | ⟨r1, r2⟩
    · rcases q with q | ⟨q1, q2⟩ | ⟨q1, q2 | q2⟩
      · exact Or.inl (l4 _ _ _ q r)
      · exact Or.inr (Or.inl ⟨q1, D1 b c r q2⟩)
      · exact Or.inr (Or.inr ⟨q1, Or.inl (J1 b c r q2)⟩)
      · exact Or.inr (Or.inr ⟨q1, Or.inr (D1 b c r q2)⟩)
    · rcases q with q | ⟨q1, q2⟩ | ⟨q1, q2 | q2⟩
      · exact Or.inr (Or.inr ⟨UJ a b q r1, Or.inl r2⟩)
      · exact (nJD b r1 q2).elim
      · exact Or.inr (Or.inr ⟨q1, Or.inl r2⟩)
      · exact (nJD b r1 q2).elim
