theorem arN_lt32 {N : Nat} {be : Nat → Int32} {k : Nat} (hN : N ≤ 14) : arN N be k < 32 := by
  have h1 : arN N be k ≤ N - 1 := fnd_le _ _
  omega
theorem arL_bt {N : Nat} {be : Nat → Int32} (hN : N ≤ 14) : ∀ (k x : Nat), bt (arL N be k) x = true ↔ x < N ∧ ∀ m, m < k → arN N be m ≠ x
  | 0, x => by
    simp only [arL]
    rw [bt_low (by omega), decide_eq_true_eq]
    exact ⟨fun h => ⟨h, fun m hm => absurd hm (Nat.not_lt_zero _)⟩, fun h => h.1⟩
  | k + 1, x => by
    show bt (arL N be k &&& (((1 : Int32) <<< (nI (arN N be k) &&& 31)) ^^^ (-1))) x = true ↔ _
    rw [bt_andn, bt_one (arN_lt32 hN), Bool.and_eq_true, arL_bt hN k x]
    constructor
    · rintro ⟨⟨h1, h2⟩, h3⟩
      refine ⟨h1, fun m hm => ?_⟩
      by_cases e : m = k
      · subst e
        intro q
        rw [q] at h3
        simp at h3
      · exact h2 m (by omega)
    · rintro ⟨h1, h2⟩
      refine ⟨⟨h1, fun m hm => h2 m (by omega)⟩, ?_⟩
      have := h2 k (by omega)
      have e : ¬ (x = arN N be k) := fun q => this q.symm
      simp [e]
theorem ct_cong {p q : Nat → Bool} : ∀ {n : Nat}, (∀ k, k < n → p k = q k) → ct p n = ct q n
  | 0, _ => rfl
  | n + 1, h => by simp only [ct]; rw [ct_cong (fun k hk => h k (by omega)), h n (by omega)]
theorem ct_ex {p : Nat → Bool} : ∀ {n : Nat}, 0 < ct p n → ∃ k, k < n ∧ p k = true
  | 0, h => absurd h (Nat.lt_irrefl 0)
  | n + 1, h => by
    simp only [ct] at h
    by_cases c : p n = true
    · exact ⟨n, by omega, c⟩
    · rw [if_neg c] at h
      obtain ⟨k, h1, h2⟩ := ct_ex (n := n) (by omega)
      exact ⟨k, by omega, h2⟩
theorem ct_le (p : Nat → Bool) : ∀ n, ct p n ≤ n
  | 0 => Nat.le_refl 0
  | n + 1 => by
    have := ct_le p n
    simp only [ct]
    split <;> omega
theorem ct_del {p q : Nat → Bool} {t : Nat} (hq : ∀ x, q x = (p x && !decide (x = t))) : ∀ {n : Nat}, t < n → p t = true → ct q n + 1 = ct p n
  | 0, h, _ => absurd h (Nat.not_lt_zero t)
  | n + 1, h, hp => by
    simp only [ct]
    by_cases e : n = t
    · have h1 : ct q n = ct p n := ct_cong (fun k hk => by
        rw [hq]
        have : ¬ (k = t) := by omega
        simp [this])
      have h2 : q n = false := by rw [hq]; simp [e]
      rw [h1, h2, e, hp]
      simp
    · have ih := ct_del hq (n := n) (by omega) hp
      have h2 : q n = p n := by rw [hq]; simp [e]
      rw [h2]
      omega
theorem ct_all : ∀ (n m : Nat), n ≤ m → ct (fun x => decide (x < m)) n = n
  | 0, _, _ => rfl
  | n + 1, m, h => by
    simp only [ct]
    rw [ct_all n m (by omega)]
    have : n < m := by omega
    simp [this]
theorem min_ex {L : Nat → Nat → Prop} (li : ∀ a, ¬ L a a) (lt : ∀ a b c, L a b → L b c → L a c) (P : Nat → Prop) : ∀ n, (∃ x, x < n ∧ P x) → ∃ x, x < n ∧ P x ∧ ∀ y, y < n → P y → ¬ L x y
  | 0, h => by obtain ⟨x, h, -⟩ := h; exact absurd h (Nat.not_lt_zero _)
  | n + 1, h => by
    by_cases c : ∃ x, x < n ∧ P x
    · obtain ⟨x, h1, h2, h3⟩ := min_ex li lt P n c
      by_cases d : P n ∧ L x n
      · refine ⟨n, by omega, d.1, fun y hy hp q => ?_⟩
        by_cases e : y = n
        · subst e; exact li y q
        · exact h3 y (by omega) hp (lt x n y d.2 q)
      · refine ⟨x, by omega, h2, fun y hy hp q => ?_⟩
        by_cases e : y = n
        · subst e; exact d ⟨hp, q⟩
        · exact h3 y (by omega) hp q
    · obtain ⟨x, h1, h2⟩ := h
      have e : x = n := by
        rcases Nat.lt_or_ge x n with q | q
        · exact absurd ⟨x, q, h2⟩ c
        · omega
      subst e
      refine ⟨x, by omega, h2, fun y hy hp q => ?_⟩
      by_cases e : y = x
      · subst e; exact li y q
      · exact c ⟨y, by omega, hp⟩
/-- at each place something is free; what is left grows less by one -/
theorem ar_free {N : Nat} {al be to : Nat → Int32} (h : RI N al be to) : ∀ k, k ≤ N → ct (fun x => bt (arL N be k) x) N = N - k ∧ (k < N → ∃ j, j < N ∧ fre be (arL N be k) j = true) := by
  have ex : ∀ k, k < N → ct (fun x => bt (arL N be k) x) N = N - k → ∃ j, j < N ∧ fre be (arL N be k) j = true := by
    intro k hk hc
    obtain ⟨x, hx, hp⟩ := ct_ex (p := fun x => bt (arL N be k) x) (n := N) (by omega)
    obtain ⟨j, h1, h2, h3⟩ := min_ex (L := LL N be) h.2.1.2.2.1 h.2.1.2.2.2.1 (fun x => bt (arL N be k) x = true) N ⟨x, hx, hp⟩
    refine ⟨j, h1, ?_⟩
    unfold fre
    rw [h2, Bool.true_and, decide_eq_true_eq, bt_and0]
    intro y hy
    cases q : bt (arL N be k) y with
    | false => rfl
    | true => exact absurd ⟨h1, hy⟩ (h3 y (h.2.2.2.2.1 j h1 y hy) q)
  intro k
  induction k with
  | zero =>
    intro _
    have h0 : ct (fun x => bt (arL N be 0) x) N = N - 0 := by
      rw [ct_cong (q := fun x => decide (x < N)) (fun x hx => by
        show bt (((1 : Int32) <<< (nI N &&& 31)) - 1) x = decide (x < N)
        exact bt_low (by have := h.1; omega))]
      exact ct_all N N (Nat.le_refl _)
    exact ⟨h0, fun hk => ex 0 hk h0⟩
  | succ k ih =>
    intro hk
    obtain ⟨c0, f0⟩ := ih (by omega)
    have f1 := f0 (Nat.lt_of_succ_le hk)
    clear f0 ih
    obtain ⟨m1, m2, m3⟩ := arN_min h.1 f1
    clear f1 m3
    have hl : bt (arL N be k) (arN N be k) = true := by
      unfold fre at m2
      rw [Bool.and_eq_true] at m2
      exact m2.1
    have hd := ct_del (p := fun x => bt (arL N be k) x) (q := fun x => bt (arL N be (k + 1)) x) (t := arN N be k) (fun x => by
      show bt (arL N be k &&& (((1 : Int32) <<< (nI (arN N be k) &&& 31)) ^^^ (-1))) x = _
      rw [bt_andn, bt_one (arN_lt32 h.1)]) m1 hl
    have hc : ct (fun x => bt (arL N be (k + 1)) x) N = N - (k + 1) := by omega
    exact ⟨hc, fun q => ex (k + 1) q hc⟩
theorem ar_hex {N : Nat} {al be to : Nat → Int32} (h : RI N al be to) : ∀ k, k < N → ∃ j, j < N ∧ fre be (arL N be k) j = true := fun k hk => (ar_free h k (by omega)).2 hk
/-- each is placed once -/
theorem ar_all {N : Nat} {al be to : Nat → Int32} (h : RI N al be to) {x : Nat} (hx : x < N) : ∃ m, m < N ∧ arN N be m = x := by
  refine Classical.byContradiction (fun q => ?_)
  have h1 : bt (arL N be N) x = true := (arL_bt h.1 N x).mpr ⟨hx, fun m hm e => q ⟨m, hm, e⟩⟩
  have h0 := (ar_free h N (Nat.le_refl _)).1
  have hd := ct_del (p := fun x => bt (arL N be N) x) (q := fun y => bt (arL N be N) y && !decide (y = x)) (t := x) (fun _ => rfl) hx h1
  omega
theorem ar_ne {N : Nat} {al be to : Nat → Int32} (h : RI N al be to) {m k : Nat} (hk : k < N) (hm : m < k) : arN N be m ≠ arN N be k := by
  obtain ⟨-, m2, -⟩ := arN_min h.1 (ar_hex h k hk)
  unfold fre at m2
  rw [Bool.and_eq_true] at m2
  exact ((arL_bt h.1 k _).mp m2.1).2 m hm
/-- what lies below that of place k has a place before it -/
theorem ar_below {N : Nat} {al be to : Nat → Int32} (h : RI N al be to) {k y : Nat} (hk : k < N) (hy : bt (be (arN N be k)) y = true) : ∃ m, m < k ∧ arN N be m = y := by
  obtain ⟨m1, m2, -⟩ := arN_min h.1 (ar_hex h k hk)
  unfold fre at m2
  rw [Bool.and_eq_true, decide_eq_true_eq, bt_and0] at m2
  refine Classical.byContradiction (fun q => ?_)
  have h1 : bt (arL N be k) y = true := (arL_bt h.1 k y).mpr ⟨h.2.2.2.2.1 _ m1 y hy, fun m hm e => q ⟨m, hm, e⟩⟩
  rw [m2.2 y hy] at h1
  cases h1
theorem arO_at {N : Nat} {be od : Nat → Int32} : ∀ {n k : Nat}, k < n → arO N be od n k = nI (arN N be k)
  | 0, k, h => absurd h (Nat.not_lt_zero k)
  | n + 1, k, h => by
    simp only [arO]
    unfold upd
    by_cases e : k = n
    · rw [if_pos e, e]
    · rw [if_neg e]; exact arO_at (by omega)
theorem arP_old {N : Nat} {al be to ph : Nat → Int32} (h : RI N al be to) {m : Nat} : ∀ {n : Nat}, m < n → n ≤ N → arP N be ph n (arN N be m) = arP N be ph (m + 1) (arN N be m)
  | 0, q, _ => absurd q (Nat.not_lt_zero m)
  | n + 1, q, hn => by
    by_cases e : m = n
    · subst e; rfl
    · have ih := arP_old h (ph := ph) (m := m) (n := n) (by omega) (by omega)
      rw [← ih]
      show upd (arP N be ph n) (arN N be n) _ (arN N be m) = _
      unfold upd
      rw [if_neg (ar_ne h (by omega) (by omega))]
theorem pO_cong {f g : Nat → Int32} {x : Int32} : ∀ {n : Nat}, (∀ k, k < n → bt x k = true → f k = g k) → pO f x n = pO g x n
  | 0, _ => rfl
  | n + 1, h => by
    simp only [pO]
    have ih := pO_cong (f := f) (g := g) (x := x) (n := n) (fun k hk => h k (by omega))
    split
    · rename_i c
      rw [ih, h n (by omega) c]
    · exact ih
/-- the phases as the class keeps them: each is told by those below it, and small -/
def PH (N : Nat) (be ph : Nat → Int32) : Prop := (∀ x, x < N → ph x = pO ph (be x) N) ∧ ∀ x, x < N → ∃ p : Nat, p < N ∧ ph x = nI p
theorem pO_le {f : Nat → Int32} {x : Int32} {b : Nat} (hb : b < 1000) : ∀ {n : Nat}, (∀ k, k < n → bt x k = true → ∃ p, p < b ∧ f k = nI p) → ∃ p, p ≤ b ∧ pO f x n = nI p
  | 0, _ => ⟨0, Nat.zero_le _, rfl⟩
  | n + 1, h => by
    obtain ⟨p, h1, h2⟩ := pO_le (f := f) (x := x) hb (n := n) (fun k hk => h k (by omega))
    simp only [pO]
    split
    · rename_i c
      obtain ⟨q, h3, h4⟩ := h n (by omega) c
      rw [h2, h4, nI_1]
      unfold imax
      split
      · exact ⟨q + 1, by omega, rfl⟩
      · exact ⟨p, h1, rfl⟩
    · exact ⟨p, h1, h2⟩
theorem PH_ar {N : Nat} {al be to ph : Nat → Int32} (h : RI N al be to) : PH N be (arP N be ph N) := by
  have eq1 : ∀ m, m < N → arP N be ph N (arN N be m) = pO (arP N be ph N) (be (arN N be m)) N := by
    intro m hm
    rw [arP_old h hm (Nat.le_refl _)]
    show upd (arP N be ph m) (arN N be m) (pO (arP N be ph m) (be (arN N be m)) N) (arN N be m) = _
    unfold upd
    rw [if_pos rfl]
    refine pO_cong (fun y hy hb => ?_)
    obtain ⟨r, hr, e⟩ := ar_below h hm hb
    rw [← e, arP_old h (n := N) (by omega) (Nat.le_refl _), arP_old h (n := m) hr (by omega)]
  have sm : ∀ m, m < N → ∃ p : Nat, p ≤ m ∧ arP N be ph N (arN N be m) = nI p := by
    intro m
    induction m using Nat.strongRecOn with
    | ind m ih =>
      intro hm
      rw [eq1 m hm]
      refine pO_le (by have := h.1; omega) (fun y hy hb => ?_)
      obtain ⟨r, hr, e⟩ := ar_below h hm hb
      obtain ⟨p, h1, h2⟩ := ih r hr (by omega)
      exact ⟨p, by omega, by rw [← e]; exact h2⟩
  refine ⟨fun x hx => ?_, fun x hx => ?_⟩
  · obtain ⟨m, hm, e⟩ := ar_all h hx
    rw [← e]; exact eq1 m hm
  · obtain ⟨m, hm, e⟩ := ar_all h hx
    obtain ⟨p, h1, h2⟩ := sm m hm
    exact ⟨p, by omega, by rw [← e]; exact h2⟩
