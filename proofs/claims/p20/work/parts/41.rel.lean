/-! the relations as the rows hold them -/
def EE (N : Nat) (al : Nat → Int32) (a b : Nat) : Prop := a < N ∧ bt (al a) b = true
def LL (N : Nat) (be : Nat → Int32) (a b : Nat) : Prop := a < N ∧ bt (be a) b = true
def RI (N : Nat) (al be to : Nat → Int32) : Prop := N ≤ 14 ∧ RA (EE N al) (LL N be) ∧ (∀ j, j < N → bt (al j) j = true) ∧ (∀ j, j < N → ∀ k, bt (al j) k = true → k < N) ∧ (∀ j, j < N → ∀ k, bt (be j) k = true → k < N) ∧ (∀ j, j < N → ∀ k, bt (to j) k = true ↔ k < N ∧ bt (be k) j = true) ∧ (∀ j, N ≤ j → be j = 0 ∧ to j = 0)
theorem RI.refl {N : Nat} {al be to : Nat → Int32} (h : RI N al be to) {j : Nat} (hj : j < N) : EE N al j j := ⟨hj, h.2.2.1 j hj⟩
theorem RI.eEq {N : Nat} {al be to : Nat → Int32} (h : RI N al be to) {a b : Nat} (q : EE N al a b) : al a = al b := by
  have hb : b < N := h.2.2.2.1 a q.1 b q.2
  refine bt_ext2 (fun i => ⟨fun r => (h.2.1.2.1 b a i (h.2.1.1 a b q) ⟨q.1, r⟩).2, fun r => (h.2.1.2.1 a b i q ⟨hb, r⟩).2⟩)
theorem RI.bEq {N : Nat} {al be to : Nat → Int32} (h : RI N al be to) {a b : Nat} (q : EE N al a b) : be a = be b := by
  have hb : b < N := h.2.2.2.1 a q.1 b q.2
  refine bt_ext2 (fun i => ⟨fun r => (h.2.1.2.2.2.2.1 a b i q ⟨q.1, r⟩).2, fun r => (h.2.1.2.2.2.2.1 b a i (h.2.1.1 a b q) ⟨hb, r⟩).2⟩)
theorem RI.toL {N : Nat} {al be to : Nat → Int32} (h : RI N al be to) {i x : Nat} (hi : i < N) : bt (to i) x = true ↔ LL N be x i := h.2.2.2.2.2.1 i hi x
theorem RI.smA {N : Nat} {al be to : Nat → Int32} (h : RI N al be to) (j : Nat) (hj : j < N) : small (al j) := fun i hi => by
  cases q : bt (al j) i with
  | false => rfl
  | true => have := h.2.2.2.1 j hj i q; have := h.1; omega
theorem RI.smB {N : Nat} {al be to : Nat → Int32} (h : RI N al be to) (j : Nat) (hj : j < N) : small (be j) := fun i hi => by
  cases q : bt (be j) i with
  | false => rfl
  | true => have := h.2.2.2.2.1 j hj i q; have := h.1; omega
theorem RI.smT {N : Nat} {al be to : Nat → Int32} (h : RI N al be to) (j : Nat) (hj : j < N) : small (to j) := fun i hi => by
  cases q : bt (to j) i with
  | false => rfl
  | true => have := ((h.toL hj).mp q).1; have := h.1; omega
theorem RI_0 : RI 0 (fun _ => 0) (fun _ => 0) (fun _ => 0) := by
  refine ⟨by omega, ⟨fun a b q => ?_, fun a b c q _ => ?_, fun a q => ?_, fun a b c q _ => ?_, fun a b c q _ => ?_, fun a b c q _ => ?_⟩, fun j hj => ?_, fun j hj => ?_, fun j hj => ?_, fun j hj => ?_, fun j _ => ⟨rfl, rfl⟩⟩
  · exact absurd q.1 (Nat.not_lt_zero _)
  · exact absurd q.1 (Nat.not_lt_zero _)
  · exact absurd q.1 (Nat.not_lt_zero _)
  · exact absurd q.1 (Nat.not_lt_zero _)
  · exact absurd q.1 (Nat.not_lt_zero _)
  · exact absurd q.1 (Nat.not_lt_zero _)
  · exact absurd hj (Nat.not_lt_zero _)
  · exact absurd hj (Nat.not_lt_zero _)
  · exact absurd hj (Nat.not_lt_zero _)
  · exact absurd hj (Nat.not_lt_zero _)
theorem RI_find {N : Nat} {al be to : Nat → Int32} (h : RI N al be to) (hN : N < 14) : RI (N + 1) (upd al N ((1 : Int32) <<< (nI N &&& 31))) be to := by
  obtain ⟨h1, h2, h3, h4, h5, h6, h7⟩ := id h
  have eN : ∀ a b, EE (N + 1) (upd al N ((1 : Int32) <<< (nI N &&& 31))) a b ↔ EE N al a b ∨ (a = N ∧ b = N) := by
    intro a b
    unfold EE upd
    by_cases e : a = N
    · subst e
      rw [if_pos rfl, bt_one (by omega), decide_eq_true_eq]
      constructor
      · intro q; exact Or.inr ⟨rfl, q.2⟩
      · rintro (q | q)
        · omega
        · exact ⟨by omega, q.2⟩
    · rw [if_neg e]
      constructor
      · intro q; exact Or.inl ⟨by omega, q.2⟩
      · rintro (q | q)
        · exact ⟨by omega, q.2⟩
        · exact absurd q.1 e
  have lN : ∀ a b, LL (N + 1) be a b ↔ LL N be a b := by
    intro a b
    unfold LL
    constructor
    · rintro ⟨q1, q2⟩
      by_cases e : a = N
      · subst e; rw [(h7 _ (Nat.le_refl _)).1, b_0] at q2; cases q2
      · exact ⟨by omega, q2⟩
    · rintro ⟨q1, q2⟩; exact ⟨by omega, q2⟩
  have nb : ∀ a b, EE N al a b → b < N := fun a b q => h4 a q.1 b q.2
  have lb : ∀ a b, LL N be a b → b < N := fun a b q => h5 a q.1 b q.2
  obtain ⟨es, et, li, lt, l3, l4⟩ := h2
  refine ⟨by omega, ⟨fun a b q => ?_, fun a b c q r => ?_, fun a q => ?_, fun a b c q r => ?_, fun a b c q r => ?_, fun a b c q r => ?_⟩, fun j hj => ?_, fun j hj k q => ?_, fun j hj k q => ?_, fun j hj k => ?_, fun j hj => h7 j (by omega)⟩
  · rw [eN] at q ⊢
    rcases q with q | ⟨rfl, rfl⟩
    · exact Or.inl (es _ _ q)
    · exact Or.inr ⟨rfl, rfl⟩
  · rw [eN] at q r ⊢
    rcases q with q | ⟨rfl, rfl⟩
    · rcases r with r | ⟨rfl, rfl⟩
      · exact Or.inl (et _ _ _ q r)
      · exact absurd (nb _ _ q) (Nat.lt_irrefl _)
    · exact r
  · rw [lN] at q; exact li a q
  · rw [lN] at q r ⊢; exact lt _ _ _ q r
  · rw [eN] at q
    rw [lN] at r ⊢
    rcases q with q | ⟨rfl, rfl⟩
    · exact l3 _ _ _ q r
    · exact r
  · rw [eN] at r
    rw [lN] at q ⊢
    rcases r with r | ⟨rfl, rfl⟩
    · exact l4 _ _ _ q r
    · exact q
  · have := (eN j j).mpr (by
      by_cases e : j = N
      · exact Or.inr ⟨e, e⟩
      · exact Or.inl ⟨by omega, h3 j (by omega)⟩)
    exact this.2
  · rcases (eN j k).mp ⟨hj, q⟩ with q | q
    · have := nb _ _ q; omega
    · omega
  · have := lb _ _ ((lN j k).mp ⟨hj, q⟩); omega
  · by_cases e : j = N
    · subst e
      rw [(h7 _ (Nat.le_refl _)).2, b_0]
      constructor
      · intro q; cases q
      · rintro ⟨q1, q2⟩
        exact absurd (lb _ _ ((lN k _).mp ⟨q1, q2⟩)) (Nat.lt_irrefl _)
    · rw [h6 j (by omega) k]
      constructor
      · rintro ⟨q1, q2⟩; exact ⟨by omega, q2⟩
      · rintro ⟨q1, q2⟩
        have := (lN k j).mp ⟨q1, q2⟩
        exact ⟨this.1, this.2⟩
theorem or_f {a b : Bool} (h : (a || b) = false) : ¬ a = true ∧ ¬ b = true := by cases a <;> cases b <;> simp_all
theorem RI_up {N : Nat} {al be to : Nat → Int32} (h : RI N al be to) {i : Nat} (hi : i < N) : anA be (al i) N = al i ||| to i := by
  refine bt_ext2 (fun x => ?_)
  rw [anA_bt h.1, b_or, Bool.or_eq_true, h.toL hi]
  constructor
  · rintro (q | ⟨q1, m, q2, q3⟩)
    · exact Or.inl q
    · exact Or.inr (h.2.1.2.2.2.2.2 x m i ⟨q1, q2⟩ (h.2.1.1 i m ⟨hi, q3⟩))
  · rintro (q | q)
    · exact Or.inl q
    · exact Or.inr ⟨q.1, i, q.2, h.2.2.1 i hi⟩
theorem RI_dn {N : Nat} {al be to : Nat → Int32} (h : RI N al be to) {j : Nat} (hj : j < N) : anB be (al j) N = al j ||| be j := by
  refine bt_ext2 (fun x => ?_)
  rw [anB_bt, b_or, Bool.or_eq_true]
  constructor
  · rintro (q | ⟨k, q1, q2, q3⟩)
    · exact Or.inl q
    · refine Or.inr ?_
      rw [h.bEq ⟨hj, q2⟩]
      exact q3
  · rintro (q | q)
    · exact Or.inl q
    · exact Or.inr ⟨j, hj, h.2.2.1 j hj, q⟩
theorem RI_above {N : Nat} {al be to : Nat → Int32} (h : RI N al be to) {i j : Nat} (hi : i < N) (hj : j < N) (hr : (bt (al i) j || bt (be j) i) = false) : RI N al (lkU be (al i ||| to i) (al j ||| be j) N) (lkU to (al j ||| be j) (al i ||| to i) N) := by
  obtain ⟨r1, r2⟩ := or_f hr
  have hL : ∀ x y, LL N (lkU be (al i ||| to i) (al j ||| be j) N) x y ↔ LL N be x y ∨ ((EE N al i x ∨ LL N be x i) ∧ (EE N al j y ∨ LL N be j y)) := by
    intro x y
    unfold LL EE
    rw [lkU_bt, b_or, b_or, Bool.or_eq_true, Bool.or_eq_true, h.toL hi]
    unfold LL
    constructor
    · rintro ⟨q, q1 | ⟨-, q2 | q2, q3 | q3⟩⟩
      · exact Or.inl ⟨q, q1⟩
      · exact Or.inr ⟨Or.inl ⟨hi, q2⟩, Or.inl ⟨hj, q3⟩⟩
      · exact Or.inr ⟨Or.inl ⟨hi, q2⟩, Or.inr ⟨hj, q3⟩⟩
      · exact Or.inr ⟨Or.inr q2, Or.inl ⟨hj, q3⟩⟩
      · exact Or.inr ⟨Or.inr q2, Or.inr ⟨hj, q3⟩⟩
    · rintro (⟨q, q1⟩ | ⟨q2 | q2, q3⟩)
      · exact ⟨q, Or.inl q1⟩
      · have hx := h.2.2.2.1 i hi x q2.2
        exact ⟨hx, Or.inr ⟨hx, Or.inl q2.2, q3.elim (fun q => Or.inl q.2) (fun q => Or.inr q.2)⟩⟩
      · exact ⟨q2.1, Or.inr ⟨q2.1, Or.inr q2, q3.elim (fun q => Or.inl q.2) (fun q => Or.inr q.2)⟩⟩
  obtain ⟨h1, h2, h3, h4, h5, h6, h7⟩ := id h
  refine ⟨h1, RA_above h2 (h.refl hi) (h.refl hj) (fun q => r1 q.2) (fun q => r2 q.2) hL, h3, h4, fun x hx y q => ?_, fun x hx y => ?_, fun x hx => ?_⟩
  · rcases (hL x y).mp ⟨hx, q⟩ with q | ⟨-, q | q⟩
    · exact h5 x q.1 y q.2
    · exact h4 j q.1 y q.2
    · exact h5 j q.1 y q.2
  · rw [lkU_bt, h.toL hx, b_or, b_or, Bool.or_eq_true, Bool.or_eq_true, h.toL hi]
    have := hL y x
    unfold LL EE at this
    unfold LL
    rw [this]
    constructor
    · rintro (q | ⟨-, q1, q2⟩)
      · exact Or.inl q
      · exact Or.inr ⟨q2.elim (fun q => Or.inl ⟨hi, q⟩) Or.inr, q1.elim (fun q => Or.inl ⟨hj, q⟩) (fun q => Or.inr ⟨hj, q⟩)⟩
    · rintro (q | ⟨q1, q2⟩)
      · exact Or.inl q
      · exact Or.inr ⟨hx, q2.elim (fun q => Or.inl q.2) (fun q => Or.inr q.2), q1.elim (fun q => Or.inl q.2) Or.inr⟩
  · have hnx : ¬ x < N := by omega
    have e1 : lkU be (al i ||| to i) (al j ||| be j) N x = be x := by unfold lkU; simp [hnx]
    have e2 : lkU to (al j ||| be j) (al i ||| to i) N x = to x := by unfold lkU; simp [hnx]
    rw [e1, e2]; exact h7 x hx
theorem RI_sup {N : Nat} {al be to : Nat → Int32} (h : RI N al be to) {i j : Nat} (hi : i < N) (hj : j < N) (hr : (bt (be i) j || bt (be j) i) = false) : anA be (al i ||| al j) N &&& ((al i ||| al j) ^^^ (-1)) = to i ||| to j := by
  obtain ⟨r1, r2⟩ := or_f hr
  obtain ⟨es, et, li, lt, l3, l4⟩ := h.2.1
  refine bt_ext2 (fun x => ?_)
  rw [bt_andn, Bool.and_eq_true, anA_bt h.1, b_or, b_or, Bool.or_eq_true, Bool.or_eq_true, h.toL hi, h.toL hj]
  constructor
  · rintro ⟨(q | q) | ⟨q1, m, q2, q3⟩, r⟩
    · simp [q] at r
    · simp [q] at r
    · rw [b_or, Bool.or_eq_true] at q3
      rcases q3 with q3 | q3
      · exact Or.inl (l4 x m i ⟨q1, q2⟩ (es _ _ ⟨hi, q3⟩))
      · exact Or.inr (l4 x m j ⟨q1, q2⟩ (es _ _ ⟨hj, q3⟩))
  · intro q
    refine ⟨Or.inr ?_, ?_⟩
    · rcases q with q | q
      · exact ⟨q.1, i, q.2, by rw [b_or, h.2.2.1 i hi]; rfl⟩
      · exact ⟨q.1, j, q.2, by rw [b_or, h.2.2.1 j hj]; simp⟩
    · have n1 : ¬ bt (al i) x = true := fun e => by
        rcases q with q | q
        · exact li i (l3 x i i (es _ _ ⟨hi, e⟩) q)
        · exact r1 (l3 x i j (es _ _ ⟨hi, e⟩) q).2
      have n2 : ¬ bt (al j) x = true := fun e => by
        rcases q with q | q
        · exact r2 (l3 x j i (es _ _ ⟨hj, e⟩) q).2
        · exact li j (l3 x j j (es _ _ ⟨hj, e⟩) q)
      simp [n1, n2]
theorem RI_sdn {N : Nat} {al be to : Nat → Int32} (h : RI N al be to) {i j : Nat} (hi : i < N) (hj : j < N) (hr : (bt (be i) j || bt (be j) i) = false) : anB be (al i ||| al j) N &&& ((al i ||| al j) ^^^ (-1)) = be i ||| be j := by
  obtain ⟨r1, r2⟩ := or_f hr
  obtain ⟨es, et, li, lt, l3, l4⟩ := h.2.1
  refine bt_ext2 (fun x => ?_)
  rw [bt_andn, Bool.and_eq_true, anB_bt, b_or, b_or, Bool.or_eq_true, Bool.or_eq_true]
  constructor
  · rintro ⟨(q | q) | ⟨k, q1, q2, q3⟩, r⟩
    · simp [q] at r
    · simp [q] at r
    · rw [b_or, Bool.or_eq_true] at q2
      rcases q2 with q2 | q2
      · rw [← h.bEq ⟨hi, q2⟩] at q3; exact Or.inl q3
      · rw [← h.bEq ⟨hj, q2⟩] at q3; exact Or.inr q3
  · intro q
    refine ⟨Or.inr ?_, ?_⟩
    · rcases q with q | q
      · exact ⟨i, hi, by rw [b_or, h.2.2.1 i hi]; rfl, q⟩
      · exact ⟨j, hj, by rw [b_or, h.2.2.1 j hj]; simp, q⟩
    · have n1 : ¬ bt (al i) x = true := fun e => by
        rcases q with q | q
        · exact li i (l4 i x i ⟨hi, q⟩ (es _ _ ⟨hi, e⟩))
        · exact r2 (l4 j x i ⟨hj, q⟩ (es _ _ ⟨hi, e⟩)).2
      have n2 : ¬ bt (al j) x = true := fun e => by
        rcases q with q | q
        · exact r1 (l4 i x j ⟨hi, q⟩ (es _ _ ⟨hj, e⟩)).2
        · exact li j (l4 j x j ⟨hj, q⟩ (es _ _ ⟨hj, e⟩))
      simp [n1, n2]
theorem RI_same {N : Nat} {al be to : Nat → Int32} (h : RI N al be to) {i j : Nat} (hi : i < N) (hj : j < N) (hr : (bt (be i) j || bt (be j) i) = false) :
    RI N (stU al (al i ||| al j) N) (lkU (lkU be ((al i ||| al j) ||| (to i ||| to j)) (be i ||| be j) N) (to i ||| to j) (al i ||| al j) N) (lkU (lkU to (be i ||| be j) ((al i ||| al j) ||| (to i ||| to j)) N) (al i ||| al j) (to i ||| to j) N) := by
  obtain ⟨r1, r2⟩ := or_f hr
  obtain ⟨h1, h2, h3, h4, h5, h6, h7⟩ := id h
  obtain ⟨es, et, li, lt, l3, l4⟩ := id h2
  have hE : ∀ x y, EE N (stU al (al i ||| al j) N) x y ↔ EE N al x y ∨ ((EE N al i x ∨ EE N al j x) ∧ (EE N al i y ∨ EE N al j y)) := by
    intro x y
    unfold EE
    rw [stU_bt, b_or, b_or, Bool.or_eq_true, Bool.or_eq_true]
    constructor
    · rintro ⟨q, ⟨-, q1, q2⟩ | ⟨-, q2⟩⟩
      · exact Or.inr ⟨q1.elim (fun q => Or.inl ⟨hi, q⟩) (fun q => Or.inr ⟨hj, q⟩), q2.elim (fun q => Or.inl ⟨hi, q⟩) (fun q => Or.inr ⟨hj, q⟩)⟩
      · exact Or.inl ⟨q, q2⟩
    · rintro (⟨q, q1⟩ | ⟨q1, q2⟩)
      · by_cases c : bt (al i) x = true ∨ bt (al j) x = true
        · refine ⟨q, Or.inl ⟨q, c, ?_⟩⟩
          rcases c with c | c
          · exact Or.inl (et i x y ⟨hi, c⟩ ⟨q, q1⟩).2
          · exact Or.inr (et j x y ⟨hj, c⟩ ⟨q, q1⟩).2
        · exact ⟨q, Or.inr ⟨fun z => c z.2, q1⟩⟩
      · have hx : x < N := q1.elim (fun q => h4 i hi x q.2) (fun q => h4 j hj x q.2)
        exact ⟨hx, Or.inl ⟨hx, q1.elim (fun q => Or.inl q.2) (fun q => Or.inr q.2), q2.elim (fun q => Or.inl q.2) (fun q => Or.inr q.2)⟩⟩
  have hL : ∀ x y, LL N (lkU (lkU be ((al i ||| al j) ||| (to i ||| to j)) (be i ||| be j) N) (to i ||| to j) (al i ||| al j) N) x y ↔ LL N be x y ∨ ((EE N al i x ∨ EE N al j x ∨ LL N be x i ∨ LL N be x j) ∧ (LL N be i y ∨ LL N be j y)) ∨ ((LL N be x i ∨ LL N be x j) ∧ (EE N al i y ∨ EE N al j y)) := by
    intro x y
    show x < N ∧ _ ↔ _
    rw [lkU_bt, lkU_bt]
    simp only [b_or, Bool.or_eq_true, h.toL hi, h.toL hj]
    constructor
    · rintro ⟨q, (q1 | ⟨-, q1, q2⟩) | ⟨-, q1, q2⟩⟩
      · exact Or.inl ⟨q, q1⟩
      · refine Or.inr (Or.inl ⟨?_, q2.elim (fun q => Or.inl ⟨hi, q⟩) (fun q => Or.inr ⟨hj, q⟩)⟩)
        rcases q1 with (q1 | q1) | q1 | q1
        · exact Or.inl ⟨hi, q1⟩
        · exact Or.inr (Or.inl ⟨hj, q1⟩)
        · exact Or.inr (Or.inr (Or.inl q1))
        · exact Or.inr (Or.inr (Or.inr q1))
      · exact Or.inr (Or.inr ⟨q1, q2.elim (fun q => Or.inl ⟨hi, q⟩) (fun q => Or.inr ⟨hj, q⟩)⟩)
    · rintro (q | ⟨q1, q2⟩ | ⟨q1, q2⟩)
      · exact ⟨q.1, Or.inl (Or.inl q.2)⟩
      · have hx : x < N := by
          rcases q1 with q1 | q1 | q1 | q1
          · exact h4 i hi x q1.2
          · exact h4 j hj x q1.2
          · exact q1.1
          · exact q1.1
        refine ⟨hx, Or.inl (Or.inr ⟨hx, ?_, q2.elim (fun q => Or.inl q.2) (fun q => Or.inr q.2)⟩)⟩
        rcases q1 with q1 | q1 | q1 | q1
        · exact Or.inl (Or.inl q1.2)
        · exact Or.inl (Or.inr q1.2)
        · exact Or.inr (Or.inl q1)
        · exact Or.inr (Or.inr q1)
      · have hx : x < N := q1.elim (fun q => q.1) (fun q => q.1)
        exact ⟨hx, Or.inr ⟨hx, q1, q2.elim (fun q => Or.inl q.2) (fun q => Or.inr q.2)⟩⟩
  have hE4 : ∀ y, (EE N al i y ∨ EE N al j y) → y < N := fun y q => q.elim (fun q => h4 i hi y q.2) (fun q => h4 j hj y q.2)
  refine ⟨h1, RA_same h2 (h.refl hi) (h.refl hj) (fun q => r1 q.2) (fun q => r2 q.2) hE hL, fun x hx => ((hE x x).mpr (Or.inl (h.refl hx))).2, fun x hx y q => ?_, fun x hx y q => ?_, fun x hx y => ?_, fun x hx => ?_⟩
  · rcases (hE x y).mp ⟨hx, q⟩ with q | ⟨-, q⟩
    · exact h4 x q.1 y q.2
    · exact hE4 y q
  · rcases (hL x y).mp ⟨hx, q⟩ with q | ⟨-, q⟩ | ⟨-, q⟩
    · exact h5 x q.1 y q.2
    · exact q.elim (fun q => h5 i hi y q.2) (fun q => h5 j hj y q.2)
    · exact hE4 y q
  · rw [lkU_bt, lkU_bt, h.toL hx]
    simp only [b_or, Bool.or_eq_true, h.toL hi, h.toL hj]
    have := hL y x
    rw [show (y < N ∧ bt (lkU (lkU be ((al i ||| al j) ||| (to i ||| to j)) (be i ||| be j) N) (to i ||| to j) (al i ||| al j) N y) x = true) = LL N (lkU (lkU be ((al i ||| al j) ||| (to i ||| to j)) (be i ||| be j) N) (to i ||| to j) (al i ||| al j) N) y x from rfl, this]
    constructor
    · rintro ((q | ⟨-, q1, q2⟩) | ⟨-, q1, q2⟩)
      · exact Or.inl q
      · refine Or.inr (Or.inl ⟨?_, q1.elim (fun q => Or.inl ⟨hi, q⟩) (fun q => Or.inr ⟨hj, q⟩)⟩)
        rcases q2 with (q2 | q2) | q2 | q2
        · exact Or.inl ⟨hi, q2⟩
        · exact Or.inr (Or.inl ⟨hj, q2⟩)
        · exact Or.inr (Or.inr (Or.inl q2))
        · exact Or.inr (Or.inr (Or.inr q2))
      · exact Or.inr (Or.inr ⟨q2, q1.elim (fun q => Or.inl ⟨hi, q⟩) (fun q => Or.inr ⟨hj, q⟩)⟩)
    · rintro (q | ⟨q1, q2⟩ | ⟨q1, q2⟩)
      · exact Or.inl (Or.inl q)
      · refine Or.inl (Or.inr ⟨hx, q2.elim (fun q => Or.inl q.2) (fun q => Or.inr q.2), ?_⟩)
        rcases q1 with q1 | q1 | q1 | q1
        · exact Or.inl (Or.inl q1.2)
        · exact Or.inl (Or.inr q1.2)
        · exact Or.inr (Or.inl q1)
        · exact Or.inr (Or.inr q1)
      · exact Or.inr ⟨hx, q2.elim (fun q => Or.inl q.2) (fun q => Or.inr q.2), q1⟩
  · have hnx : ¬ x < N := by omega
    have e1 : ∀ (f : Nat → Int32) (s a : Int32), lkU f s a N x = f x := fun f s a => by unfold lkU; simp [hnx]
    rw [e1, e1, e1, e1]; exact h7 x hx
