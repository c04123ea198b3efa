/-! hearths: the class's years and the reference's -/
def HR (N : Nat) (fi la fr tt : Nat → Int32) : Prop := ∀ k, k < N → (dtd fr k = true → fi k = fr k ∧ la k = tt k ∧ (0 ≤ fr k ∧ fr k ≤ 9999) ∧ (0 ≤ tt k ∧ tt k ≤ 9999)) ∧ (dtd fr k = false → fi k = 0 ∧ la k = 9999)
def rg (x : Int32) : Prop := 0 ≤ x ∧ x ≤ 9999
theorem rg_0 : rg 0 := ⟨by decide, by decide⟩
theorem rg_9 : rg 9999 := ⟨by decide, by decide⟩
theorem rg_max {x y : Int32} (hx : rg x) (hy : rg y) : rg (imax x y) := by unfold imax; split <;> assumption
theorem rg_min {x y : Int32} (hx : rg x) (hy : rg y) : rg (imin x y) := by unfold imin; split <;> assumption
theorem max_0 {y : Int32} (h : rg y) : imax y 0 = y := by
  unfold imax
  rw [if_neg (fun q => (fa_of_lt q).2.1 h.1)]
theorem min_9 {y : Int32} (h : rg y) : imin y 9999 = y := by
  unfold imin
  rw [if_neg (fun q => (fa_of_lt q).2.1 h.2)]
theorem gF_step {N : Nat} {fi la fr tt : Nat → Int32} (h : HR N fi la fr tt) {set : Int32} : ∀ {n : Nat}, n ≤ N → gF fi set n = mF fr set n ∧ rg (gF fi set n)
  | 0, _ => ⟨rfl, rg_0⟩
  | n + 1, hn => by
    obtain ⟨e, g⟩ := gF_step h (set := set) (n := n) (by omega)
    obtain ⟨h1, h2⟩ := h n (by omega)
    simp only [gF, mF]
    cases c : bt set n with
    | false => exact ⟨by simpa using e, by simpa using g⟩
    | true =>
      cases d : dtd fr n with
      | false =>
        obtain ⟨f1, -⟩ := h2 d
        simp only [if_true, Bool.and_true]
        rw [f1, max_0 g]
        exact ⟨by simpa using e, by simpa using g⟩
      | true =>
        obtain ⟨f1, -, f2, -⟩ := h1 d
        simp only [if_true, Bool.and_true]
        rw [f1, e]
        exact ⟨rfl, rg_max (e ▸ g) f2⟩
theorem gF_ext {fi : Nat → Int32} {set : Int32} {N : Nat} (hs : ∀ i, bt set i = true → i < N) : ∀ {n : Nat}, N ≤ n → gF fi set n = gF fi set N
  | 0, h => by have : N = 0 := by omega
               subst this; rfl
  | n + 1, h => by
    by_cases e : N = n + 1
    · rw [e]
    · rw [← gF_ext hs (n := n) (by omega)]
      simp only [gF]
      cases c : bt set n with
      | false => simp
      | true => have := hs n c; omega
theorem lL_ext {la : Nat → Int32} {set : Int32} {N : Nat} (hs : ∀ i, bt set i = true → i < N) : ∀ {n : Nat}, N ≤ n → lL la set n = lL la set N
  | 0, h => by have : N = 0 := by omega
               subst this; rfl
  | n + 1, h => by
    by_cases e : N = n + 1
    · rw [e]
    · rw [← lL_ext hs (n := n) (by omega)]
      simp only [lL]
      cases c : bt set n with
      | false => simp
      | true => have := hs n c; omega
theorem lL_step {N : Nat} {al be fi la fr tt : Nat → Int32} (h : HR N fi la fr tt) {set : Int32} {j : Nat} (hset : ∀ k, k < N → bt set k = (bt (al j) k || bt (be k) j)) : ∀ {n : Nat}, n ≤ N → lL la set n = mT al be fr tt j n ∧ rg (lL la set n)
  | 0, _ => ⟨rfl, rg_9⟩
  | n + 1, hn => by
    obtain ⟨e, g⟩ := lL_step h hset (n := n) (by omega)
    obtain ⟨h1, h2⟩ := h n (by omega)
    simp only [lL, mT]
    rw [← hset n (by omega)]
    cases c : bt set n with
    | false => exact ⟨by simpa using e, by simpa using g⟩
    | true =>
      cases d : dtd fr n with
      | false =>
        obtain ⟨-, f1⟩ := h2 d
        simp only [if_true, Bool.and_true]
        rw [f1, min_9 g]
        exact ⟨by simpa using e, by simpa using g⟩
      | true =>
        obtain ⟨-, f1, -, f2⟩ := h1 d
        simp only [if_true, Bool.and_true]
        rw [f1, e]
        exact ⟨rfl, rg_min (e ▸ g) f2⟩
theorem or_lt {x y : Int32} {N : Nat} (h1 : ∀ i, bt x i = true → i < N) (h2 : ∀ i, bt y i = true → i < N) : ∀ i, bt (x ||| y) i = true → i < N := fun i q => by
  rw [b_or, Bool.or_eq_true] at q
  exact q.elim (h1 i) (h2 i)
theorem fY_eq {N : Nat} {al be to fi la fr tt : Nat → Int32} (R : RI N al be to) (h : HR N fi la fr tt) {j : Nat} (hj : j < N) : fY al be fi j = mF fr (al j ||| be j) N ∧ rg (fY al be fi j) := by
  unfold fY
  rw [gF_ext (or_lt (R.2.2.2.1 j hj) (R.2.2.2.2.1 j hj)) R.1]
  exact gF_step h (Nat.le_refl _)
theorem lY_eq {N : Nat} {al be to fi la fr tt : Nat → Int32} (R : RI N al be to) (h : HR N fi la fr tt) {j : Nat} (hj : j < N) : lY al to la j = mT al be fr tt j N ∧ rg (lY al to la j) := by
  unfold lY
  rw [lL_ext (or_lt (R.2.2.2.1 j hj) (fun i q => ((R.toL hj).mp q).1)) R.1]
  refine lL_step h (fun k hk => ?_) (Nat.le_refl _)
  rw [b_or]
  congr 1
  have := R.2.2.2.2.2.1 j hj k
  cases c : bt (be k) j with
  | true => exact this.mpr ⟨hk, c⟩
  | false =>
    cases d : bt (to j) k with
    | false => rfl
    | true => rw [c] at this; exact absurd (this.mp d).2 (by decide)
theorem dbt_eq {N : Nat} {al be to fi la fr tt : Nat → Int32} (R : RI N al be to) (h : HR N fi la fr tt) {j : Nat} (hj : j < N) : dbt al be to fi la j = mdb N al be fr tt j := by
  unfold dbt mdb
  rw [(fY_eq R h hj).1, (lY_eq R h hj).1]
theorem ctd_eq {N : Nat} {al be to fi la fr tt : Nat → Int32} (R : RI N al be to) (h : HR N fi la fr tt) : ct (dbt al be to fi la) N = ct (mdb N al be fr tt) N := ct_cong (fun k hk => dbt_eq R h hk)
theorem dtd_upd {fr : Nat → Int32} {j k : Nat} {y : Int32} : dtd (upd fr j y) k = if k = j then !decide (y = -1) else dtd fr k := by
  unfold dtd upd
  by_cases e : k = j
  · rw [if_pos e, if_pos e]
  · rw [if_neg e, if_neg e]
theorem rg_n1 {y : Int32} (h : 0 ≤ y) : ¬ y = -1 := fun q => by rw [q] at h; exact absurd h (by decide)
theorem HR_put {N : Nat} {fi la fr tt : Nat → Int32} (h : HR N fi la fr tt) {j : Nat} {f t : Int32} (hf : rg f) (ht : rg t) : HR N (upd fi j f) (upd la j t) (upd fr j f) (upd tt j t) := by
  intro k hk
  rw [dtd_upd]
  unfold upd
  by_cases e : k = j
  · simp only [if_pos e]
    have := rg_n1 hf.1
    refine ⟨fun _ => ⟨trivial, trivial, hf, ht⟩, fun q => ?_⟩
    simp [this] at q
  · simp only [if_neg e]; exact h k hk
theorem HR_take {N : Nat} {fi la fr tt : Nat → Int32} (h : HR N fi la fr tt) {j : Nat} : HR N (upd fi j 0) (upd la j 9999) (upd fr j (-1)) tt := by
  intro k hk
  rw [dtd_upd]
  unfold upd
  by_cases e : k = j
  · simp only [if_pos e]
    refine ⟨fun q => ?_, fun _ => ⟨trivial, trivial⟩⟩
    simp at q
  · simp only [if_neg e]; exact h k hk
theorem HR_find {N : Nat} {fi la fr tt : Nat → Int32} (h : HR N fi la fr tt) (h0 : fi N = 0 ∧ la N = 9999) : HR (N + 1) fi la (upd fr N (-1)) tt := by
  intro k hk
  rw [dtd_upd]
  by_cases e : k = N
  · simp only [if_pos e]
    refine ⟨fun q => ?_, fun _ => by rw [e]; exact h0⟩
    simp at q
  · simp only [if_neg e]
    unfold upd
    simp only [if_neg e]
    exact h k (by omega)
/-- blame: who has no hearth can't be it -/
theorem bl_le (N : Nat) (al be to fi la : Nat → Int32) : ∀ k, blM N al be to fi la k ≤ nI (ct (dbt al be to fi la) N)
  | 0 => by rw [fa_le]; exact Int.le_refl _
  | k + 1 => by
    have ih := bl_le N al be to fi la k
    simp only [blM]
    split
    · rename_i c
      rw [fa_lt] at c
      rw [fa_le] at ih ⊢
      omega
    · exact ih
theorem bl_eq {N : Nat} {al be to fi la fr tt : Nat → Int32} (R : RI N al be to) (h : HR N fi la fr tt) : ∀ k, k ≤ N → blM N al be to fi la k = mblM N al be fr tt k ∧ blB N al be to fi la k = mblB N al be fr tt k
  | 0, _ => by
    refine ⟨?_, rfl⟩
    simp only [blM, mblM]
    rw [ctd_eq R h]
  | k + 1, hk => by
    obtain ⟨e1, e2⟩ := bl_eq R h k (by omega)
    simp only [blM, mblM, blB, mblB]
    cases d : dtd fr k with
    | true =>
      rw [ctd_eq R (HR_take h (j := k)), e1, e2]
      simp
    | false =>
      obtain ⟨f1, f2⟩ := (h k (by omega)).2 d
      have u1 : upd fi k 0 = fi := by funext x; unfold upd; by_cases e : x = k <;> simp [e, f1]
      have u2 : upd la k 9999 = la := by funext x; unfold upd; by_cases e : x = k <;> simp [e, f2]
      have hle := bl_le N al be to fi la k
      rw [u1, u2, if_neg (fun q => (fa_of_lt q).2.1 hle), if_neg (fun q => (fa_of_lt q).2.1 hle)]
      simp [e1, e2]
theorem sub_lt0 {x y : Int32} (hx : rg x) (hy : rg y) : x - y < 0 ↔ x < y := by
  obtain ⟨x1, x2⟩ := hx
  obtain ⟨y1, y2⟩ := hy
  rw [fa_le] at x1 x2 y1 y2
  have e0 : (0 : Int32).toInt = 0 := by decide
  have e9 : (9999 : Int32).toInt = 9999 := by decide
  rw [fa_lt, fa_lt, Int32.toInt_sub, e0]
  rw [e0] at x1 y1
  rw [e9] at x2 y2
  have hb : (x.toInt - y.toInt).bmod (2 ^ 32) = x.toInt - y.toInt := by
    rw [Int.bmod_def]
    omega
  rw [hb]
  omega
theorem na_ring (a b c d : Int32) : (a - b) - (c - d) = a - b - c + d := by grind
theorem na_eq {N : Nat} {al be to fi la fr tt fi2 la2 fr2 tt2 : Nat → Int32} (R : RI N al be to) (h : HR N fi la fr tt) (h2 : HR N fi2 la2 fr2 tt2) : ∀ k, k ≤ N → naS al be to fi la fi2 la2 k = mnaS N al be fr tt fr2 tt2 k
  | 0, _ => rfl
  | k + 1, hk => by
    have ih := na_eq R h h2 k (by omega)
    have hk' : k < N := by omega
    obtain ⟨a1, a2⟩ := fY_eq R h hk'
    obtain ⟨b1, b2⟩ := lY_eq R h hk'
    obtain ⟨c1, -⟩ := fY_eq R h2 hk'
    obtain ⟨d1, -⟩ := lY_eq R h2 hk'
    have hn : mnw N al be fr tt k = lY al to la k - fY al be fi k := by
      unfold mnw cpF
      rw [if_pos hk', a1, b1]
    have hd : dbt al be to fi la k = false ↔ ¬ lY al to la k - fY al be fi k < 0 := by
      rw [sub_lt0 b2 a2]
      unfold dbt
      exact decide_eq_false_iff_not
    simp only [naS, mnaS]
    rw [ih, hn, ← dbt_eq R h2 hk', ← c1, ← d1]
    by_cases c : dbt al be to fi la k = false ∧ dbt al be to fi2 la2 k = false
    · rw [if_pos c, if_pos ⟨hd.mp c.1, c.2⟩, na_ring]
    · rw [if_neg c, if_neg (fun q => c ⟨hd.mpr q.1, q.2⟩)]
      exact (Int32.add_zero _).symm
