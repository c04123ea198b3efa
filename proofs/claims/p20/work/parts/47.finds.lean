/-! finds -/
def FN (N : Nat) (mn : Nat → Int32) : Prop := (∀ p, isL (mn p) 100) ∧ ∀ p, 4 * N ≤ p → mn p = 0
theorem FN_0 : FN 0 (fun _ => 0) := ⟨fun _ => ⟨0, by omega, rfl⟩, fun _ _ => rfl⟩
theorem FN_find {N : Nat} {mn : Nat → Int32} (h : FN N mn) : FN (N + 1) mn := ⟨h.1, fun p q => h.2 p (by omega)⟩
theorem FN_put {N : Nat} {mn : Nat → Int32} (h : FN N mn) {i kd : Nat} {z : Int32} (hi : i < N) (hk : kd < 4) (hz : isL z 100) : FN N (upd mn (i * 4 + kd) z) := by
  refine ⟨fun p => ?_, fun p q => ?_⟩
  · unfold upd
    split
    · exact hz
    · exact h.1 p
  · unfold upd
    rw [if_neg (by omega)]
    exact h.2 p q
theorem sS_mA {mn : Nat → Int32} {set : Int32} {kd : Nat} : ∀ n, sS mn set kd n = mA mn set kd n
  | 0 => rfl
  | n + 1 => by
    simp only [sS, mA]
    rw [sS_mA n, Nat.mul_comm n 4]
    cases bt set n <;> simp
theorem sS_ext {mn : Nat → Int32} {set : Int32} {kd N : Nat} (hs : ∀ i, bt set i = true → i < N) : ∀ {n : Nat}, N ≤ n → sS mn set kd n = sS mn set kd N
  | 0, h => by have : N = 0 := by omega
               subst this; rfl
  | n + 1, h => by
    by_cases e : N = n + 1
    · rw [e]
    · rw [← sS_ext hs (n := n) (by omega)]
      simp only [sS]
      cases c : bt set n with
      | false => simp
      | true => have := hs n c; omega
theorem sS_eq {N : Nat} {al be to mn : Nat → Int32} (R : RI N al be to) {j kd : Nat} (hj : j < N) : sS mn (al j) kd 14 = mA mn (al j) kd N := by
  rw [sS_ext (R.2.2.2.1 j hj) R.1, sS_mA]
theorem sS_nat {N : Nat} {mn : Nat → Int32} (h : FN N mn) {set : Int32} {kd : Nat} : ∀ n, ∃ s, s ≤ 99 * n ∧ sS mn set kd n = nI s
  | 0 => ⟨0, by omega, rfl⟩
  | n + 1 => by
    obtain ⟨s, h1, h2⟩ := sS_nat h (set := set) (kd := kd) n
    obtain ⟨q, h3, h4⟩ := h.1 (n * 4 + kd)
    simp only [sS]
    rw [h2, h4, nI_add]
    split
    · exact ⟨s + q, by omega, rfl⟩
    · exact ⟨s, by omega, rfl⟩
/-- what counts for each season, in numbers -/
def wgN (M C B T : Nat) : Nat → Nat
  | 0 => 3 * M + T
  | 1 => 2 * C + B / 2
  | 2 => 2 * B + C
  | _ => 4 * T + M
theorem wg_nat {M C B T : Nat} (hB : B < 2 ^ 20) (k : Nat) : wgt (nI M) (nI C) (nI B) (nI T) k = nI (wgN M C B T k) := by
  have e2 : nI B / 2 = nI (B / 2) := pk_div (d := 2) (by omega) (by omega) (by omega)
  match k with
  | 0 => show nI 3 * nI M + nI T = _; rw [pk_mul, nI_add]; rfl
  | 1 => show nI 2 * nI C + nI B / 2 = _; rw [e2, pk_mul, nI_add]; rfl
  | 2 => show nI 2 * nI B + nI C = _; rw [pk_mul, nI_add]; rfl
  | k + 3 => show nI 4 * nI T + nI M = _; rw [pk_mul, nI_add]; rfl
def mbN (w : Nat → Nat) : Nat → Nat
  | 0 => 0
  | k + 1 => if w (mbN w k) < w k then k else mbN w k
theorem mbN_lt {w : Nat → Nat} : ∀ {k : Nat}, 0 < k → mbN w k < k
  | 0, h => absurd h (Nat.lt_irrefl 0)
  | 1, _ => by simp [mbN]
  | k + 2, _ => by
    have := mbN_lt (w := w) (k := k + 1) (by omega)
    show (if w (mbN w (k + 1)) < w (k + 1) then k + 1 else mbN w (k + 1)) < k + 2
    split <;> omega
theorem mbN_max {w : Nat → Nat} : ∀ {k j : Nat}, j < k → w j ≤ w (mbN w k)
  | 0, j, h => absurd h (Nat.not_lt_zero j)
  | k + 1, j, h => by
    simp only [mbN]
    by_cases e : j = k
    · subst e
      split <;> omega
    · have ih := mbN_max (w := w) (k := k) (j := j) (by omega)
      split <;> omega
theorem mbN_1 {w : Nat → Nat} : mbN w 1 = 0 := by
  have := mbN_lt (w := w) (k := 1) (by omega)
  omega
theorem mbs_1 {f : Nat → Int32} : mbs f 1 = 0 := by
  show (if f (mbs f 0) < f 0 then 0 else mbs f 0) = 0
  split <;> rfl
theorem mbs_nat {f : Nat → Int32} {w : Nat → Nat} (hw : ∀ k, w k < 2 ^ 31) (hf : ∀ k, k < 4 → f k = nI (w k)) : ∀ {n : Nat}, 0 < n → n ≤ 4 → mbs f n = mbN w n
  | 0, h, _ => absurd h (Nat.lt_irrefl 0)
  | 1, _, _ => by
    rw [mbs_1, mbN_1]
  | n + 2, _, hn => by
    have ih := mbs_nat hw hf (n := n + 1) (by omega) (by omega)
    have hl := mbN_lt (w := w) (k := n + 1) (by omega)
    show (if f (mbs f (n + 1)) < f (n + 1) then n + 1 else mbs f (n + 1)) = (if w (mbN w (n + 1)) < w (n + 1) then n + 1 else mbN w (n + 1))
    rw [ih, hf _ (by omega), hf _ (by omega)]
    by_cases c : w (mbN w (n + 1)) < w (n + 1)
    · rw [if_pos c, if_pos ((nI_ltI (hw _) (hw _)).mpr c)]
    · rw [if_neg c, if_neg (fun q => c ((nI_ltI (hw _) (hw _)).mp q))]
theorem se_nat {m c b t : Int32} {w : Nat → Nat} (hw : ∀ k, w k < 2 ^ 31) (hf : ∀ k, wgt m c b t k = nI (w k)) : ∀ {n : Nat}, 0 < n → seM m c b t n = nI (w (mbN w n)) ∧ seB m c b t n = if 0 < w (mbN w n) then nI (mbN w n) else -1
  | 0, h => absurd h (Nat.lt_irrefl 0)
  | 1, _ => by
    rw [mbN_1]
    show (if (0 : Int32) < wgt m c b t 0 then wgt m c b t 0 else 0) = _ ∧ (if (0 : Int32) < wgt m c b t 0 then nI 0 else -1) = _
    rw [hf 0]
    by_cases c : 0 < w 0
    · have : (0 : Int32) < nI (w 0) := (nI_ltI (a := 0) (by omega) (hw 0)).mpr c
      simp [this, c]
    · have e : w 0 = 0 := by omega
      rw [e]
      simp
      decide
  | n + 2, _ => by
    obtain ⟨e1, e2⟩ := se_nat hw hf (n := n + 1) (by omega)
    have hs : seM m c b t (n + 2) = if seM m c b t (n + 1) < wgt m c b t (n + 1) then wgt m c b t (n + 1) else seM m c b t (n + 1) := rfl
    have hb : seB m c b t (n + 2) = if seM m c b t (n + 1) < wgt m c b t (n + 1) then nI (n + 1) else seB m c b t (n + 1) := rfl
    have hm : mbN w (n + 2) = if w (mbN w (n + 1)) < w (n + 1) then n + 1 else mbN w (n + 1) := rfl
    rw [hs, hb, e1, e2, hf, hm]
    by_cases c : w (mbN w (n + 1)) < w (n + 1)
    · have c2 := (nI_ltI (hw _) (hw _)).mpr c
      rw [if_pos c2, if_pos c2, if_pos c]
      have : 0 < w (n + 1) := by omega
      rw [if_pos this]
      exact ⟨rfl, rfl⟩
    · have c2 : ¬ nI (w (mbN w (n + 1))) < nI (w (n + 1)) := fun q => c ((nI_ltI (hw _) (hw _)).mp q)
      rw [if_neg c2, if_neg c2, if_neg c]
      exact ⟨rfl, rfl⟩
theorem ssn_nat {M C B T : Nat} (h1 : M < 2000) (h2 : C < 2000) (h3 : B < 2000) (h4 : T < 2000) : seB (nI M) (nI C) (nI B) (nI T) 4 = mssn (nI M) (nI C) (nI B) (nI T) := by
  have hw : ∀ k, wgN M C B T k < 2 ^ 31 := fun k => by
    match k with
    | 0 => show 3 * M + T < _; omega
    | 1 => show 2 * C + B / 2 < _; omega
    | 2 => show 2 * B + C < _; omega
    | k + 3 => show 4 * T + M < _; omega
  have hf := fun k => wg_nat (M := M) (C := C) (B := B) (T := T) (by omega) k
  rw [(se_nat hw hf (by omega)).2]
  unfold mssn
  have ht : ∀ k, k < 4 → tel (nI M) (nI C) (nI B) (nI T) k = nI (wgN M C B T k) := fun k hk => by
    rw [← hf k]
    rcases (show k = 0 ∨ k = 1 ∨ k = 2 ∨ k = 3 by omega) with rfl | rfl | rfl | rfl <;> rfl
  rw [mbs_nat hw ht (by omega) (Nat.le_refl _), nI_add, nI_add, nI_add]
  have m0 := mbN_max (w := wgN M C B T) (k := 4) (j := 0) (by omega)
  have m1 := mbN_max (w := wgN M C B T) (k := 4) (j := 1) (by omega)
  have m2 := mbN_max (w := wgN M C B T) (k := 4) (j := 2) (by omega)
  have m3 := mbN_max (w := wgN M C B T) (k := 4) (j := 3) (by omega)
  have ml := mbN_lt (w := wgN M C B T) (k := 4) (by omega)
  have d0 : wgN M C B T 0 = 3 * M + T := rfl
  have d1 : wgN M C B T 1 = 2 * C + B / 2 := rfl
  have d2 : wgN M C B T 2 = 2 * B + C := rfl
  have d3 : wgN M C B T 3 = 4 * T + M := rfl
  by_cases c : M + C + B + T = 0
  · have z : wgN M C B T (mbN (wgN M C B T) 4) = 0 := by
      rcases (show mbN (wgN M C B T) 4 = 0 ∨ mbN (wgN M C B T) 4 = 1 ∨ mbN (wgN M C B T) 4 = 2 ∨ mbN (wgN M C B T) 4 = 3 by omega) with e | e | e | e <;> rw [e] <;> omega
    rw [if_neg (by omega), c, if_pos (by decide : nI 0 = 0)]
  · have e : ¬ nI (M + C + B + T) = 0 := fun q => c ((nI_eq (b := 0) (by omega) (by omega)).mp q)
    rw [if_pos (by omega), if_neg e]
theorem ssn_eq {N : Nat} {al be to mn : Nat → Int32} (R : RI N al be to) (h : FN N mn) {j : Nat} (hj : j < N) : ssn mn (al j) = mssn (mA mn (al j) 0 N) (mA mn (al j) 1 N) (mA mn (al j) 2 N) (mA mn (al j) 3 N) := by
  unfold ssn
  rw [← sS_eq R hj, ← sS_eq R hj, ← sS_eq R hj, ← sS_eq R hj]
  obtain ⟨M, a1, a2⟩ := sS_nat h (set := al j) (kd := 0) 14
  obtain ⟨C, b1, b2⟩ := sS_nat h (set := al j) (kd := 1) 14
  obtain ⟨B, c1, c2⟩ := sS_nat h (set := al j) (kd := 2) 14
  obtain ⟨T, d1, d2⟩ := sS_nat h (set := al j) (kd := 3) 14
  rw [a2, b2, c2, d2]
  exact ssn_nat (by omega) (by omega) (by omega) (by omega)
theorem sI_ext {f : Nat → Int32} {N : Nat} (h : ∀ p, N ≤ p → f p = 0) : ∀ {n : Nat}, N ≤ n → sI f n = sI f N
  | 0, q => by have : N = 0 := by omega
               subst this; rfl
  | n + 1, q => by
    by_cases e : N = n + 1
    · rw [e]
    · rw [← sI_ext h (n := n) (by omega)]
      simp only [sI]
      rw [h n (by omega), Int32.add_zero]
theorem sI_cong {f g : Nat → Int32} : ∀ {n : Nat}, (∀ k, k < n → f k = g k) → sI f n = sI g n
  | 0, _ => rfl
  | n + 1, h => by simp only [sI]; rw [sI_cong (fun k hk => h k (by omega)), h n (by omega)]
