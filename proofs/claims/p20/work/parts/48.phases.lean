/-! phases: the reference's rounds come to what the class keeps -/
def pn (ph : Nat → Int32) (x : Nat) : Nat := (ph x).toNatClampNeg
theorem PH.nat {N : Nat} {be ph : Nat → Int32} (h : PH N be ph) (hN : N ≤ 14) {x : Nat} (hx : x < N) : ph x = nI (pn ph x) ∧ pn ph x < N := by
  obtain ⟨p, h1, h2⟩ := h.2 x hx
  have : pn ph x = p := by
    unfold pn
    rw [h2]
    exact nI_clamp (by omega)
  rw [this]
  exact ⟨h2, h1⟩
theorem pO_spec {ph : Nat → Int32} {x : Int32} {g : Nat → Nat} : ∀ {n : Nat}, (∀ k, k < n → bt x k = true → ph k = nI (g k) ∧ g k < 1000) → ∃ v, v ≤ 1000 ∧ pO ph x n = nI v ∧ (∀ k, k < n → bt x k = true → g k + 1 ≤ v) ∧ (v = 0 ∨ ∃ k, k < n ∧ bt x k = true ∧ v = g k + 1)
  | 0, _ => ⟨0, by omega, rfl, fun k hk => absurd hk (Nat.not_lt_zero k), Or.inl rfl⟩
  | n + 1, h => by
    obtain ⟨v, v0, v1, v2, v3⟩ := pO_spec (ph := ph) (x := x) (g := g) (n := n) (fun k hk => h k (by omega))
    simp only [pO]
    by_cases c : bt x n = true
    · obtain ⟨h1, h2⟩ := h n (by omega) c
      rw [if_pos c, v1, h1, nI_1]
      unfold imax
      by_cases d : v < g n + 1
      · rw [if_pos ((nI_ltI (by omega) (by omega)).mpr d)]
        refine ⟨g n + 1, by omega, rfl, fun k hk hb => ?_, Or.inr ⟨n, by omega, c, rfl⟩⟩
        by_cases e : k = n
        · subst e; omega
        · have := v2 k (by omega) hb; omega
      · rw [if_neg (fun q => d ((nI_ltI (by omega) (by omega)).mp q))]
        refine ⟨v, v0, rfl, fun k hk hb => ?_, ?_⟩
        · by_cases e : k = n
          · subst e; omega
          · exact v2 k (by omega) hb
        · rcases v3 with v3 | ⟨k, k1, k2, k3⟩
          · exact Or.inl v3
          · exact Or.inr ⟨k, by omega, k2, k3⟩
    · rw [if_neg c]
      refine ⟨v, v0, v1, fun k hk hb => ?_, ?_⟩
      · by_cases e : k = n
        · subst e; exact absurd hb c
        · exact v2 k (by omega) hb
      · rcases v3 with v3 | ⟨k, k1, k2, k3⟩
        · exact Or.inl v3
        · exact Or.inr ⟨k, by omega, k2, k3⟩
/-- the phase of x is greater than those below it, and 0 or one more than one of them -/
theorem PH.rel {N : Nat} {al be to ph : Nat → Int32} (R : RI N al be to) (h : PH N be ph) {x : Nat} (hx : x < N) : (∀ k, bt (be x) k = true → pn ph k + 1 ≤ pn ph x) ∧ (pn ph x = 0 ∨ ∃ k, k < N ∧ bt (be x) k = true ∧ pn ph x = pn ph k + 1) := by
  have hN := R.1
  obtain ⟨v, v0, v1, v2, v3⟩ := pO_spec (ph := ph) (x := be x) (g := pn ph) (n := N) (fun k hk _ => ⟨(h.nat hN hk).1, by have := (h.nat hN hk).2; omega⟩)
  have e : pn ph x = v := by
    have h1 := (h.nat hN hx).1
    rw [h.1 x hx, v1] at h1
    have h2 := (h.nat hN hx).2
    exact ((nI_eq (by omega) (by omega)).mp h1).symm
  rw [e]
  exact ⟨fun k hb => v2 k (R.2.2.2.2.1 x hx k hb) hb, v3⟩
/-- never more than the phase; from N on 0 -/
def Bd (N : Nat) (ph f : Nat → Int32) : Prop := ∀ x, ∃ q, f x = nI q ∧ (x < N → q ≤ pn ph x) ∧ (N ≤ x → q = 0)
/-- right up to t -/
def Ok (N : Nat) (ph f : Nat → Int32) (t : Nat) : Prop := ∀ x, x < N → pn ph x ≤ t → f x = nI (pn ph x)
theorem ph3_ok {N : Nat} {al be to ph : Nat → Int32} (R : RI N al be to) (h : PH N be ph) {r t : Nat} (hr : r < N) {f : Nat → Int32} (hB : Bd N ph f) (hO : Ok N ph f t) : ∀ n, n ≤ N → Bd N ph (ph3 be r f n) ∧ Ok N ph (ph3 be r f n) t ∧ (∀ x, x ≠ r → ph3 be r f n x = f x) ∧ (pn ph r ≤ t + 1 → ∀ k, k < n → bt (be r) k = true → pn ph r = pn ph k + 1 → ph3 be r f n r = nI (pn ph r))
  | 0, _ => ⟨hB, hO, fun _ _ => rfl, fun _ k hk => absurd hk (Nat.not_lt_zero k)⟩
  | n + 1, hn => by
    have hN := R.1
    obtain ⟨b1, o1, x1, g1⟩ := ph3_ok R h hr hB hO n (by omega)
    by_cases c : bt (be r) n = true
    · have e : ph3 be r f (n + 1) = upd (ph3 be r f n) r (imax (ph3 be r f n r) (ph3 be r f n n + 1)) := by simp only [ph3]; rw [if_pos c]
      have hle := (h.rel R hr).1 n c
      have hpr := (h.nat hN hr).2
      obtain ⟨q1, q2, q3, -⟩ := b1 r
      obtain ⟨s1, s2, s3, -⟩ := b1 n
      have q3 := q3 hr
      have s3 := s3 (by omega)
      have hv : imax (ph3 be r f n r) (ph3 be r f n n + 1) = nI (max q1 (s1 + 1)) := by
        rw [q2, s2, nI_1]
        unfold imax
        by_cases d : q1 < s1 + 1
        · rw [if_pos ((nI_ltI (by omega) (by omega)).mpr d)]
          congr 1; omega
        · rw [if_neg (fun z => d ((nI_ltI (by omega) (by omega)).mp z))]
          congr 1; omega
      rw [e, hv]
      refine ⟨fun x => ?_, fun x hx ht => ?_, fun x hx => ?_, fun ht k hk hb hp => ?_⟩
      · unfold upd
        by_cases d : x = r
        · subst d
          rw [if_pos rfl]
          exact ⟨_, rfl, fun _ => by omega, fun z => by omega⟩
        · rw [if_neg d]; exact b1 x
      · unfold upd
        by_cases d : x = r
        · subst d
          rw [if_pos rfl]
          have := o1 x hx ht
          rw [q2] at this
          have e2 := (nI_eq (by omega) (by omega)).mp this
          congr 1
          omega
        · rw [if_neg d]; exact o1 x hx ht
      · unfold upd
        rw [if_neg hx]
        exact x1 x hx
      · unfold upd
        rw [if_pos rfl]
        congr 1
        by_cases d : k = n
        · subst d
          have hk0 : pn ph k ≤ t := by omega
          have := o1 k (by omega) hk0
          rw [s2] at this
          have e2 := (nI_eq (by omega) (by omega)).mp this
          omega
        · have := g1 ht k (by omega) hb hp
          rw [q2] at this
          have e2 := (nI_eq (by omega) (by omega)).mp this
          omega
    · have e : ph3 be r f (n + 1) = ph3 be r f n := by simp only [ph3]; rw [if_neg c]
      rw [e]
      refine ⟨b1, o1, x1, fun ht k hk hb hp => ?_⟩
      by_cases d : k = n
      · subst d; exact absurd hb c
      · exact g1 ht k (by omega) hb hp
theorem ph3_all {N : Nat} {al be to ph : Nat → Int32} (R : RI N al be to) (h : PH N be ph) {r t : Nat} (hr : r < N) {f : Nat → Int32} (hB : Bd N ph f) (hO : Ok N ph f t) (ht : pn ph r ≤ t + 1) : ph3 be r f N r = nI (pn ph r) := by
  obtain ⟨b1, o1, -, g1⟩ := ph3_ok R h hr hB hO N (Nat.le_refl _)
  rcases (h.rel R hr).2 with z | ⟨k, k1, k2, k3⟩
  · exact o1 r hr (by omega)
  · exact g1 ht k k1 k2 k3
theorem ph2_ok {N : Nat} {al be to ph : Nat → Int32} (R : RI N al be to) (h : PH N be ph) {t : Nat} {f : Nat → Int32} (hB : Bd N ph f) (hO : Ok N ph f t) : ∀ n, n ≤ N → Bd N ph (ph2 N be f n) ∧ Ok N ph (ph2 N be f n) t ∧ ∀ x, x < n → pn ph x ≤ t + 1 → ph2 N be f n x = nI (pn ph x)
  | 0, _ => ⟨hB, hO, fun x hx => absurd hx (Nat.not_lt_zero x)⟩
  | n + 1, hn => by
    obtain ⟨b1, o1, g1⟩ := ph2_ok R h hB hO n (by omega)
    obtain ⟨b2, o2, x2, -⟩ := ph3_ok R h (r := n) (by omega) b1 o1 N (Nat.le_refl _)
    refine ⟨b2, o2, fun x hx ht => ?_⟩
    by_cases e : x = n
    · subst e; exact ph3_all R h (by omega) b1 o1 ht
    · show ph3 be n (ph2 N be f n) N x = _
      rw [x2 x e]; exact g1 x (by omega) ht
theorem ph1_ok {N : Nat} {al be to ph : Nat → Int32} (R : RI N al be to) (h : PH N be ph) : ∀ t, Bd N ph (ph1 N be t) ∧ Ok N ph (ph1 N be t) t
  | 0 => ⟨fun x => ⟨0, rfl, fun _ => Nat.zero_le _, fun _ => rfl⟩, fun x _ ht => by
      have : pn ph x = 0 := by omega
      rw [this]; rfl⟩
  | t + 1 => by
    obtain ⟨b1, o1⟩ := ph1_ok R h t
    obtain ⟨b2, o2, g2⟩ := ph2_ok R h b1 o1 N (Nat.le_refl _)
    exact ⟨b2, fun x hx ht => g2 x hx ht⟩
theorem ph1_eq {N : Nat} {al be to ph : Nat → Int32} (R : RI N al be to) (h : PH N be ph) {x : Nat} (hx : x < N) : ph1 N be N x = ph x := by
  rw [(ph1_ok R h N).2 x hx (by have := (h.nat R.1 hx).2; omega)]
  exact (h.nat R.1 hx).1.symm
theorem ph1_out {N : Nat} {al be to ph : Nat → Int32} (R : RI N al be to) (h : PH N be ph) {x : Nat} (hx : N ≤ x) : ph1 N be N x = 0 := by
  obtain ⟨q, h1, -, h3⟩ := (ph1_ok R h N).1 x
  rw [h1, h3 hx]; rfl
theorem phs_nat {f : Nat → Int32} {g : Nat → Nat} : ∀ {n : Nat}, (∀ k, k < n → f k = nI (g k) ∧ g k < 1000) → ∃ v, v ≤ 1000 ∧ phs f n = nI v ∧ (0 < n → 1 ≤ v)
  | 0, _ => ⟨0, by omega, rfl, fun h => absurd h (Nat.lt_irrefl 0)⟩
  | n + 1, h => by
    obtain ⟨v, v0, v1, -⟩ := phs_nat (f := f) (g := g) (n := n) (fun k hk => h k (by omega))
    obtain ⟨h1, h2⟩ := h n (by omega)
    simp only [phs]
    rw [v1, h1, nI_1]
    unfold imax
    by_cases d : v < g n + 1
    · rw [if_pos ((nI_ltI (by omega) (by omega)).mpr d)]
      exact ⟨g n + 1, by omega, rfl, fun _ => by omega⟩
    · rw [if_neg (fun q => d ((nI_ltI (by omega) (by omega)).mp q))]
      exact ⟨v, v0, rfl, fun _ => by omega⟩
theorem phs_cong {f g : Nat → Int32} : ∀ {n : Nat}, (∀ k, k < n → f k = g k) → phs f n = phs g n
  | 0, _ => rfl
  | n + 1, h => by simp only [phs]; rw [phs_cong (fun k hk => h k (by omega)), h n (by omega)]
theorem phs_ext {f : Nat → Int32} {g : Nat → Nat} {N : Nat} (hN : 0 < N) (h : ∀ k, k < N → f k = nI (g k) ∧ g k < 1000) (h0 : ∀ k, N ≤ k → f k = 0) : ∀ {n : Nat}, N ≤ n → phs f n = phs f N
  | 0, q => by have : N = 0 := by omega
               subst this; rfl
  | n + 1, q => by
    by_cases e : N = n + 1
    · rw [e]
    · rw [← phs_ext hN h h0 (n := n) (by omega)]
      obtain ⟨v, v0, v1, v2⟩ := phs_nat (f := f) (g := g) (n := N) h
      have v2 := v2 hN
      have ih := phs_ext hN h h0 (n := n) (by omega)
      show imax (phs f n) (f n + 1) = phs f n
      rw [ih, v1, h0 n (by omega)]
      unfold imax
      have : ¬ nI v < 0 + 1 := by
        show ¬ nI v < nI 1
        exact nI_nlt (by omega) (by omega)
      rw [if_neg this]
theorem phs_eq {N : Nat} {al be to ph : Nat → Int32} (R : RI N al be to) (h : PH N be ph) : phs ph N = if nI N = 0 then 0 else phs (ph1 N be N) 14 := by
  have hN := R.1
  by_cases c : N = 0
  · subst c; rfl
  · have e : ¬ nI N = 0 := fun q => c ((nI_eq (b := 0) (by omega) (by omega)).mp q)
    rw [if_neg e, phs_ext (g := pn ph) (N := N) (by omega) (fun k hk => by
      rw [ph1_eq R h hk]
      exact ⟨(h.nat hN hk).1, by have := (h.nat hN hk).2; omega⟩) (fun k hk => ph1_out R h hk) hN]
    exact phs_cong (fun k hk => (ph1_eq R h hk).symm)
