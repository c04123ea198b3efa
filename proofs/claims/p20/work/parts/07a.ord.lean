theorem fnd_lt {p : Nat → Bool} {n k : Nat} (h : k < fnd p n) : p k = false := by
  cases q : p k with
  | false => rfl
  | true =>
    have h1 := fnd_le p n
    have := fnd_yes (n := n) (k := k) (by omega) q
    omega
theorem fnd_tr {p : Nat → Bool} : ∀ {n : Nat}, fnd p n < n → p (fnd p n) = true
  | 0, h => absurd h (Nat.not_lt_zero _)
  | n + 1, h => by
    unfold fnd at h ⊢
    by_cases c : fnd p n < n
    · rw [if_pos c]
      exact fnd_tr c
    · rw [if_neg c] at h ⊢
      by_cases c2 : p n = true
      · rw [if_pos c2]; exact c2
      · rw [if_neg c2] at h; omega
theorem arN_min {N : Nat} {be : Nat → Int32} {k : Nat} (_ : N ≤ 14) (h : ∃ j, j < N ∧ fre be (arL N be k) j = true) : arN N be k < N ∧ fre be (arL N be k) (arN N be k) = true ∧ ∀ j, j < arN N be k → fre be (arL N be k) j = false := by
  obtain ⟨j, hj, hp⟩ := h
  have h1 : arN N be k ≤ N - 1 := fnd_le _ _
  refine ⟨by omega, ?_, fun i hi => fnd_lt hi⟩
  rcases Nat.lt_or_ge (arN N be k) (N - 1) with q | q
  · exact fnd_tr q
  · have e : arN N be k = N - 1 := by omega
    rcases Nat.lt_or_ge j (N - 1) with r | r
    · have := fnd_yes (p := fre be (arL N be k)) r hp
      unfold arN at e
      omega
    · have : j = arN N be k := by omega
      rw [← this]; exact hp
