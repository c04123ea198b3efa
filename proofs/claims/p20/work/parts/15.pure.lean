theorem isL_ok {v : Int32} {n : Nat} (hn : n ≤ 100) (h1 : ¬ v < 0) (h2 : v < nI n) : isL v n := by
  obtain ⟨j, hj, rfl⟩ := nI_of h1
  exact ⟨j, (nI_ltI hj (by omega)).mp h2, rfl⟩
theorem isL_no {v : Int32} {n : Nat} (hn : n ≤ 100) (h : v < 0 ∨ ¬ v < nI n) : ¬ isL v n := by
  intro q
  obtain ⟨j, hj, rfl⟩ := q
  rcases h with h | h
  · exact nI_pos (by omega) h
  · exact h (nI_lt hj (by omega))
theorem isL_okB {v : Int32} (h1 : ¬ v < 0) (h2 : v ≤ 9999) : isL v 10000 := by
  obtain ⟨j, hj, rfl⟩ := nI_of h1
  have := (nI_leI (b := 9999) hj (by omega)).mp h2
  exact ⟨j, by omega, rfl⟩
theorem isL_noB {v : Int32} (h : v < 0 ∨ ¬ v ≤ 9999) : ¬ isL v 10000 := by
  intro q
  obtain ⟨j, hj, rfl⟩ := q
  rcases h with h | h
  · exact nI_pos (by omega) h
  · exact h ((nI_leI (b := 9999) (by omega) (by omega)).mpr (by omega))
theorem le_100 {v : Int32} (h : v ≤ 99) : v < nI 100 := by
  rw [fa_lt, nI_toInt (by omega)]
  rw [fa_le] at h
  have : (99 : Int32).toInt = 99 := by decide
  omega
theorem nle_100 {v : Int32} (h : ¬ v ≤ 99) : ¬ v < nI 100 := by
  intro q
  apply h
  rw [fa_lt, nI_toInt (by omega)] at q
  rw [fa_le]
  have : (99 : Int32).toInt = 99 := by decide
  omega
theorem small_lkU {f : Nat → Int32} {x y : Int32} {k j : Nat} (h : small (f j)) (h2 : small y) : small (lkU f x y k j) := by
  unfold lkU
  split
  · exact small_or h h2
  · exact h
theorem small_stU {f : Nat → Int32} {x : Int32} {k j : Nat} (h : small (f j)) (h2 : small x) : small (stU f x k j) := by
  unfold stU
  split
  · exact h2
  · exact h
/-- the cells of the class -/
def wXo (cA : ClassId) (qx qs qv qh qt qal qbe qto qod qph qm qf ql qtf qtl : Nat) (N : Nat) (al be to od ph mn : Nat → Int32) (bu : Int32) (fi la : Nat → Int32) (tb : Int32) (tf tl : Nat → Int32) : va_W :=
  [(qx, .inr (3, [.ref qs, .ref qv, .ref qh, .ref qt])), (qs, .inr (2, [.int (nI N), .ref qal, .ref qbe, .ref qto, .ref qod, .ref qph])), (qal, .inl (cA, 14, .inl al)), (qbe, .inl (cA, 14, .inl be)), (qto, .inl (cA, 14, .inl to)), (qod, .inl (cA, 14, .inl od)), (qph, .inl (cA, 14, .inl ph)), (qv, .inr (1, [.ref qm])), (qm, .inl (cA, 56, .inl mn)), (qh, .inr (0, [.int bu, .ref qf, .ref ql])), (qf, .inl (cA, 14, .inl fi)), (ql, .inl (cA, 14, .inl la)), (qt, .inr (0, [.int tb, .ref qtf, .ref qtl])), (qtf, .inl (cA, 14, .inl tf)), (qtl, .inl (cA, 14, .inl tl))]
def xbtw (be to : Nat → Int32) (i j : Nat) : Int32 := if bt (be i) j = true then nI (ct (bt (be i &&& to j)) 14) else if bt (be j) i = true then nI (ct (bt (be j &&& to i)) 14) else -1
theorem gF_cong {f g : Nat → Int32} {x : Int32} : ∀ {n : Nat}, (∀ j, j < n → f j = g j) → gF f x n = gF g x n
  | 0, _ => rfl
  | n + 1, h => by simp only [gF]; rw [gF_cong (fun j hj => h j (by omega)), h n (by omega)]
theorem lL_cong {f g : Nat → Int32} {x : Int32} : ∀ {n : Nat}, (∀ j, j < n → f j = g j) → lL f x n = lL g x n
  | 0, _ => rfl
  | n + 1, h => by simp only [lL]; rw [lL_cong (fun j hj => h j (by omega)), h n (by omega)]
theorem cp_at {t f : Nat → Int32} {k : Nat} {x : Int32} (j : Nat) (hj : j < 14) : upd (cpF t f 14) k x j = upd f k x j := by
  unfold upd cpF
  simp [hj]
theorem fY_cp {al be t f : Nat → Int32} {k j : Nat} {x : Int32} : fY al be (upd (cpF t f 14) k x) j = fY al be (upd f k x) j := gF_cong cp_at
theorem lY_cp {al to t f : Nat → Int32} {k j : Nat} {x : Int32} : lY al to (upd (cpF t f 14) k x) j = lY al to (upd f k x) j := lL_cong cp_at
theorem dbt_cp {al be to t f t2 f2 : Nat → Int32} {k j : Nat} {x y : Int32} : dbt al be to (upd (cpF t f 14) k x) (upd (cpF t2 f2 14) k y) j = dbt al be to (upd f k x) (upd f2 k y) j := by
  unfold dbt
  rw [fY_cp, lY_cp]
theorem span_cp {al be to t f t2 f2 : Nat → Int32} {k j : Nat} {x y : Int32} : lY al to (upd (cpF t2 f2 14) k y) j - fY al be (upd (cpF t f 14) k x) j = lY al to (upd f2 k y) j - fY al be (upd f k x) j := by
  rw [fY_cp, lY_cp]
theorem ctd_cp {al be to t f t2 f2 : Nat → Int32} {k N : Nat} {x y : Int32} : ct (dbt al be to (upd (cpF t f 14) k x) (upd (cpF t2 f2 14) k y)) N = ct (dbt al be to (upd f k x) (upd f2 k y)) N := by
  have h : dbt al be to (upd (cpF t f 14) k x) (upd (cpF t2 f2 14) k y) = dbt al be to (upd f k x) (upd f2 k y) := funext (fun j => dbt_cp)
  rw [h]
def naS (al be to fi la fi2 la2 : Nat → Int32) : Nat → Int32
  | 0 => 0
  | k + 1 => if dbt al be to fi la k = false ∧ dbt al be to fi2 la2 k = false then naS al be to fi la fi2 la2 k + ((lY al to la k - fY al be fi k) - (lY al to la2 k - fY al be fi2 k)) else naS al be to fi la fi2 la2 k
def blM (N : Nat) (al be to fi la : Nat → Int32) : Nat → Int32
  | 0 => nI (ct (dbt al be to fi la) N)
  | k + 1 => if nI (ct (dbt al be to (upd fi k 0) (upd la k 9999)) N) < blM N al be to fi la k then nI (ct (dbt al be to (upd fi k 0) (upd la k 9999)) N) else blM N al be to fi la k
def blB (N : Nat) (al be to fi la : Nat → Int32) : Nat → Int32
  | 0 => -1
  | k + 1 => if nI (ct (dbt al be to (upd fi k 0) (upd la k 9999)) N) < blM N al be to fi la k then nI k else blB N al be to fi la k
