/-- a number below n -/
def isL (v : Int32) (n : Nat) : Prop := ∃ j : Nat, j < n ∧ v = nI j
def badS (f t : Int32) : Prop := f < 0 ∨ 9999 < t ∨ ¬ f ≤ t
theorem isk_t {m : Nat} {v : Int32} (h : isn v 0 (nI m) = true) (hm : m < 2 ^ 30 := by decide) : isL v (m + 1) := by
  simp only [isn, Bool.and_eq_true, Bool.not_eq_true', decide_eq_false_iff_not] at h
  obtain ⟨h1, h2⟩ := h
  obtain ⟨j, hj, rfl⟩ := nI_of h1
  refine ⟨j, ?_, rfl⟩
  rcases Nat.lt_or_ge m j with q | q
  · exact absurd ((nI_ltI (by omega) (by omega)).mpr q) h2
  · omega
theorem isk_f {m : Nat} {v : Int32} (h : isn v 0 (nI m) = false) (q : isL v (m + 1)) (hm : m < 2 ^ 30 := by decide) : False := by
  obtain ⟨j, hj, rfl⟩ := q
  have h1 : ¬ nI j < 0 := nI_pos (by omega)
  have h2 : ¬ nI m < nI j := nI_nlt (by omega) (by omega)
  simp [isn, h1, h2] at h
theorem isn_t {N : Nat} {v : Int32} (hN : N ≤ 14) (h : isn v 0 (nI N - 1) = true) : isL v N := by
  match N, hN, h with
  | 0, _, h =>
    simp only [isn, Bool.and_eq_true, Bool.not_eq_true', decide_eq_false_iff_not] at h
    obtain ⟨h1, h2⟩ := h
    obtain ⟨j, hj, rfl⟩ := nI_of h1
    exfalso
    refine h2 ?_
    rw [fa_lt, nI_toInt hj]
    have : (nI 0 - 1).toInt = -1 := by decide
    omega
  | n + 1, hN, h =>
    rw [show nI (n + 1) - 1 = nI n from nI_pred n] at h
    exact isk_t h (by omega)
theorem isn_f {N : Nat} {v : Int32} (hN : N ≤ 14) (h : isn v 0 (nI N - 1) = false) (q : isL v N) : False := by
  match N, hN, h, q with
  | 0, _, _, q => obtain ⟨j, hj, -⟩ := q; omega
  | n + 1, hN, h, q =>
    rw [show nI (n + 1) - 1 = nI n from nI_pred n] at h
    exact isk_f h q (by omega)
/-- the cells of the reference -/
def wMo (cA : ClassId) (qy qya qyb qyc qyd qye : Nat) (th : Int32) (N : Nat) (al be mn fr tt : Nat → Int32) : va_W :=
  [(qy, .inr (4, [.int th, .int (nI N), .ref qya, .ref qyb, .ref qyc, .ref qyd, .ref qye])), (qya, .inl (cA, 14, .inl al)), (qyb, .inl (cA, 14, .inl be)), (qyc, .inl (cA, 56, .inl mn)), (qyd, .inl (cA, 14, .inl fr)), (qye, .inl (cA, 14, .inl tt))]
def mbtw (N : Nat) (be : Nat → Int32) (i j : Nat) : Int32 := if bt (be i) j = true then nI (ct (fun k => bt (be i) k && bt (be k) j) N) else if bt (be j) i = true then nI (ct (fun k => bt (be j) k && bt (be k) i) N) else -1
def mnw (N : Nat) (al be fr tt : Nat → Int32) : Nat → Int32 := cpF (fun _ => 0) (fun l => mT al be fr tt l N - mF fr (al l ||| be l) N) N
def mnaS (N : Nat) (al be fr tt fr2 tt2 : Nat → Int32) : Nat → Int32
  | 0 => 0
  | k + 1 => mnaS N al be fr tt fr2 tt2 k + (if ¬ mnw N al be fr tt k < 0 ∧ mdb N al be fr2 tt2 k = false then mnw N al be fr tt k - mT al be fr2 tt2 k N + mF fr2 (al k ||| be k) N else 0)
