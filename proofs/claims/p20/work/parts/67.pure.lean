/-! what the simulation's last look finds: the folds of its loops -/
section PU2
variable {N : Nat} {al be to od ph mn : Nat → Int32} {bu : Int32} {fi la fr tt : Nat → Int32}
/-- those that stand in the order already -/
def dnB (N : Nat) (be : Nat → Int32) (p x : Nat) : Bool := anyB (fun m => decide (arN N be m = x)) p
def frA (N : Nat) (be : Nat → Int32) (p x : Nat) : Nat → Bool
  | 0 => !dnB N be p x
  | b + 1 => frA N be p x b && (dnB N be p b || !bt (be x) b)
def itD (f : Nat → Bool) (N : Nat) : Nat → Int32
  | 0 => -1
  | t + 1 => if f (N - (t + 1)) then nI (N - (t + 1)) else itD f N t
theorem dnB_at {p x : Nat} : dnB N be p x = true ↔ ∃ m, m < p ∧ arN N be m = x := by
  unfold dnB
  rw [anyB_at]
  exact ⟨fun ⟨k, a, b⟩ => ⟨k, a, of_decide_eq_true b⟩, fun ⟨k, a, b⟩ => ⟨k, a, decide_eq_true b⟩⟩
theorem dnB_L (hN : N ≤ 14) {p x : Nat} (hx : x < N) : dnB N be p x = !bt (arL N be p) x := by
  have h := arL_bt (be := be) hN p x
  cases c : bt (arL N be p) x with
  | true =>
    cases d : dnB N be p x with
    | false => rfl
    | true =>
      obtain ⟨m, hm, e⟩ := dnB_at.mp d
      exact absurd e ((h.mp c).2 m hm)
  | false =>
    cases d : dnB N be p x with
    | true => rfl
    | false =>
      have : bt (arL N be p) x = true := h.mpr ⟨hx, fun m hm e => by
        have := dnB_at.mpr ⟨m, hm, e⟩
        rw [d] at this
        cases this⟩
      rw [c] at this
      cases this
theorem dn_0w {N : Nat} {be : Nat → Int32} : (fun _ => (0 : Int32)) = fun x => bI (dnB N be 0 x) := rfl
theorem dn_st {p : Nat} : upd (fun x => bI (dnB N be p x)) (arN N be p) (bI true) = fun x => bI (dnB N be (p + 1) x) := by
  funext x
  unfold upd
  have e : dnB N be (p + 1) x = (dnB N be p x || decide (arN N be p = x)) := rfl
  rw [e]
  by_cases h : x = arN N be p
  · rw [if_pos h, decide_eq_true h.symm, Bool.or_true]
  · rw [if_neg h, decide_eq_false (fun q => h q.symm), Bool.or_false]
theorem frA_at {p x : Nat} : ∀ {n : Nat}, frA N be p x n = true ↔ dnB N be p x = false ∧ ∀ b, b < n → dnB N be p b = false → bt (be x) b = false
  | 0 => by simp [frA]
  | n + 1 => by
    simp only [frA, Bool.and_eq_true]
    rw [frA_at]
    constructor
    · rintro ⟨⟨a, b⟩, c⟩
      refine ⟨a, fun k hk q => ?_⟩
      rcases Nat.lt_succ_iff_lt_or_eq.mp hk with z | z
      · exact b k z q
      · subst z
        rw [q] at c
        simpa using c
    · rintro ⟨a, b⟩
      refine ⟨⟨a, fun k hk => b k (by omega)⟩, ?_⟩
      cases c : dnB N be p n with
      | true => rfl
      | false => rw [b n (by omega) c]; rfl
theorem frA_eq (R : RI N al be to) {p x : Nat} (hx : x < N) : frA N be p x N = fre be (arL N be p) x := by
  have key : frA N be p x N = true ↔ fre be (arL N be p) x = true := by
    rw [frA_at]
    unfold fre
    rw [Bool.and_eq_true, decide_eq_true_eq, bt_and0, dnB_L R.1 hx]
    constructor
    · rintro ⟨a, b⟩
      refine ⟨by simpa using a, fun i hi => ?_⟩
      have il := R.ltB hx hi
      cases c : bt (arL N be p) i with
      | false => rfl
      | true =>
        have := b i il (by rw [dnB_L R.1 il, c]; rfl)
        rw [this] at hi
        cases hi
    · rintro ⟨a, b⟩
      refine ⟨by rw [a]; rfl, fun k hk q => ?_⟩
      rw [dnB_L R.1 hk] at q
      cases c : bt (be x) k with
      | false => rfl
      | true =>
        rw [b k c] at q
        cases q
  cases c : fre be (arL N be p) x with
  | true => exact key.mpr c
  | false =>
    cases d : frA N be p x N with
    | false => rfl
    | true => rw [key.mp d] at c; cases c
theorem itD_at {f : Nat → Bool} {i : Nat} (hi : i < N) (h1 : f i = true) (h2 : ∀ j, j < i → f j = false) : ∀ d, d ≤ i → itD f N (N - i + d) = nI i
  | 0, _ => by
    have e : N - i = (N - i - 1) + 1 := by omega
    rw [Nat.add_zero, e]
    simp only [itD]
    rw [show N - (N - i - 1 + 1) = i by omega, if_pos h1]
  | d + 1, hd => by
    rw [show N - i + (d + 1) = (N - i + d) + 1 by omega]
    simp only [itD]
    rw [if_neg (by rw [h2 _ (by omega)]; decide), itD_at hi h1 h2 d (by omega)]
theorem itD_eq (R : RI N al be to) {p : Nat} (hp : p < N) : itD (fun x => frA N be p x N) N N = nI (arN N be p) := by
  obtain ⟨h1, h2, h3⟩ := arN_min R.1 (ar_hex R p hp)
  have := itD_at (f := fun x => frA N be p x N) h1 ((frA_eq R h1).trans h2) (fun j hj => (frA_eq R (by omega)).trans (h3 j hj)) (arN N be p) (Nat.le_refl _)
  rw [show N - arN N be p + arN N be p = N by omega] at this
  exact this
theorem dn0 (h : 0 < N) : nI (N - 1) = nI (N - 0) - 1 := by
  obtain ⟨n, rfl⟩ : ∃ n, N = n + 1 := ⟨N - 1, by omega⟩
  rw [Nat.sub_zero, nI_pred, Nat.add_sub_cancel]
theorem dn1 {t : Nat} (h : t < N) : nI (N - t) - 1 = nI (N - (t + 1)) := by
  rw [show N - t = (N - (t + 1)) + 1 by omega, nI_pred]
theorem dn2 {k : Nat} : nI k + (-1) = nI k - 1 := (Int32.sub_eq_add_neg _ _).symm
/-- the first one of its sort -/
def fsB (al : Nat → Int32) (j : Nat) : Nat → Bool
  | 0 => true
  | k + 1 => fsB al j k && (decide (j ≤ k) || !bt (al j) k)
theorem fsB_at {j : Nat} : ∀ {n : Nat}, fsB al j n = true ↔ ∀ k, k < n → k < j → bt (al j) k = false
  | 0 => by simp [fsB]
  | n + 1 => by
    simp only [fsB, Bool.and_eq_true]
    rw [fsB_at]
    constructor
    · rintro ⟨a, b⟩ k hk hj
      rcases Nat.lt_succ_iff_lt_or_eq.mp hk with z | z
      · exact a k z hj
      · subst z
        rw [decide_eq_false (by omega), Bool.false_or] at b
        simpa using b
    · intro h
      refine ⟨fun k hk => h k (by omega), ?_⟩
      by_cases c : j ≤ n
      · rw [decide_eq_true c]; rfl
      · rw [h n (by omega) (by omega)]; simp
theorem fs_srt (hN : N ≤ 14) {j : Nat} (hj : j < N) : nI (srt al j + (if fsB al j N then 1 else 0)) = nI (srt al (j + 1)) := by
  have e : fsB al j N = decide (al j &&& (((1 : Int32) <<< (nI j &&& 31)) - 1) = 0) := by
    by_cases c : al j &&& (((1 : Int32) <<< (nI j &&& 31)) - 1) = 0
    · rw [decide_eq_true c]
      refine fsB_at.mpr (fun k _ hk => ?_)
      cases d : bt (al j) k with
      | false => rfl
      | true =>
        have := bt_and0.mp c k d
        rw [bt_low (by omega), decide_eq_true hk] at this
        cases this
    · rw [decide_eq_false c]
      cases d : fsB al j N with
      | false => rfl
      | true =>
        exfalso
        refine c (bt_and0.mpr (fun i hi => ?_))
        rw [bt_low (by omega)]
        refine decide_eq_false (fun q => ?_)
        rw [fsB_at.mp d i (by omega) q] at hi
        cases hi
  rw [e]
  simp only [srt]
  by_cases c : al j &&& (((1 : Int32) <<< (nI j &&& 31)) - 1) = 0
  · rw [if_pos c, if_pos (decide_eq_true c)]
  · rw [if_neg c, if_neg (by rw [decide_eq_false c]; decide)]
    rfl
/-- finds of a layer and of all that are the same -/
def ofV (mn al : Nat → Int32) (j k : Nat) : Nat → Int32 := fun x => if x < 4 then mA mn (al j) x k else 0
def ofK (mn al : Nat → Int32) (j k kd : Nat) : Nat → Int32 := fun x => if x < 4 then (if x < kd then mA mn (al j) x (k + 1) else mA mn (al j) x k) else 0
theorem of_0w {j : Nat} : (fun _ => (0 : Int32)) = ofV mn al j 0 := by
  funext x
  unfold ofV
  split <;> rfl
theorem of_k0 {j k : Nat} : ofV mn al j k = ofK mn al j k 0 := by
  funext x
  unfold ofV ofK
  by_cases h : x < 4
  · rw [if_pos h, if_pos h, if_neg (by omega)]
  · rw [if_neg h, if_neg h]
theorem of_k4 {j k : Nat} : ofK mn al j k 4 = ofV mn al j (k + 1) := by
  funext x
  unfold ofV ofK
  by_cases h : x < 4
  · rw [if_pos h, if_pos h, if_pos h]
  · rw [if_neg h, if_neg h]
theorem of_st {j k kd : Nat} (hk : kd < 4) : upd (ofK mn al j k kd) kd (ofK mn al j k kd kd + (if bt (al j) k then mn (k * 4 + kd) else 0)) = ofK mn al j k (kd + 1) := by
  funext x
  unfold upd
  by_cases h : x = kd
  · subst h
    rw [if_pos rfl]
    unfold ofK
    rw [if_pos hk, if_pos hk, if_neg (show ¬ x < x by omega), if_pos (show x < x + 1 by omega)]
    simp only [mA]
    rw [Nat.mul_comm k 4]
  · rw [if_neg h]
    unfold ofK
    by_cases h2 : x < 4
    · rw [if_pos h2, if_pos h2]
      by_cases h3 : x < kd
      · rw [if_pos h3, if_pos (by omega)]
      · rw [if_neg h3, if_neg (by omega)]
    · rw [if_neg h2, if_neg h2]
theorem sI_st {j k : Nat} : sI mn (4 * j + k) + mn (j * 4 + k) = sI mn (4 * j + (k + 1)) := by
  show _ = sI mn (4 * j + k) + mn (4 * j + k)
  rw [Nat.mul_comm]
theorem sBs_mbs (w : Nat → Int32) : sBs w = mbs w 4 := by
  have lt0 : ∀ i, ¬ w i < w i := fun i h => (fa_of_lt h).2.2.1 h
  have tr : ∀ {a b c : Int32}, a < b → b < c → a < c := fun {a b c} h1 h2 => fa_trans h1 (fa_of_lt h2).1
  have tr2 : ∀ {a b c : Int32}, ¬ a < b → ¬ b < c → ¬ a < c := fun {a b c} h1 h2 h3 => by
    rw [fa_lt] at *
    omega
  have tr3 : ∀ {a b c : Int32}, ¬ b < a → b < c → a < c := fun {a b c} h1 h2 => by
    rw [fa_lt] at *
    omega
  have tr4 : ∀ {a b c : Int32}, a < b → ¬ c < b → a < c := fun {a b c} h1 h2 => by
    rw [fa_lt] at *
    omega
  simp only [sBs, mbs]
  simp only [lt0, if_false]
  by_cases h01 : w 0 < w 1 <;> by_cases h02 : w 0 < w 2 <;> by_cases h03 : w 0 < w 3 <;> by_cases h12 : w 1 < w 2 <;> by_cases h13 : w 1 < w 3 <;> by_cases h23 : w 2 < w 3 <;> simp [h01, h02, h03, h12, h13, h23] <;> first | rfl | (exfalso; rw [fa_lt] at *; omega) | skip
/-- between: as the class counts, as the law counts -/
theorem btw_eq (h : IV N al be to od ph mn bu fi la fr tt) {i j : Nat} (hi : i < N) (hj : j < N) : xbtw be to i j = if (bt (be i) j || bt (be j) i) = true then nI (ct (fun b => (bt (be i) b && bt (be b) j) || (bt (be j) b && bt (be b) i)) N) else -1 := by
  rw [h.btw hi hj]
  unfold mbtw
  cases c : bt (be i) j with
  | true =>
    simp only [Bool.true_or, if_true]
    refine congrArg nI (ct_cong (fun b hb => ?_))
    cases d : bt (be j) b && bt (be b) i with
    | false => rw [Bool.or_false]
    | true =>
      rw [Bool.and_eq_true] at d
      exact absurd (h.R.trB hi c (h.R.trB hj d.1 d.2)) (h.R.irr hi)
  | false =>
    cases c2 : bt (be j) i with
    | true =>
      simp only [Bool.or_true, if_true, if_false, Bool.false_eq_true]
      refine congrArg nI (ct_cong (fun b hb => ?_))
      cases d : bt (be i) b && bt (be b) j with
      | false => rw [Bool.false_or]
      | true =>
        rw [Bool.and_eq_true] at d
        rw [h.R.trB hi d.1 d.2] at c
        cases c
    | false => simp
theorem pB_prs (R : RI N al be to) : ∀ n, n ≤ N → pB be N n = prs be n
  | 0, _ => rfl
  | n + 1, hn => by
    simp only [pB, prs]
    rw [pB_prs R n (by omega), ct14b R (by omega)]
theorem tol_all (h : IV N al be to od ph mn bu fi la fr tt) {j : Nat} (hj : j < N) {w : Nat → Int32} (h0 : w 0 = sF fr (pF al be j) N) (h1 : w 1 = sT fr tt (pT al be j) N) (h2 : w 2 = bI (sD N al be fr tt j)) (h3 : w 3 = ph j) (h4 : w 4 = nI (ct (bt (be j)) N)) (h5 : w 5 = nI (ct (fun x => bt (be x) j) N)) (h6 : w 6 = nI (ct (bt (al j)) N)) (h7 : w 7 = sSe (ofV mn al j N 0) (ofV mn al j N 1) (ofV mn al j N 2) (ofV mn al j N 3)) (h8 : w 8 = bI (dtd fr j)) : ∀ x, x < 9 → tolV N al be to ph mn bu fi la j x = w x := by
  intro x hx
  rcases (show x = 0 ∨ x = 1 ∨ x = 2 ∨ x = 3 ∨ x = 4 ∨ x = 5 ∨ x = 6 ∨ x = 7 ∨ x = 8 by omega) with rfl | rfl | rfl | rfl | rfl | rfl | rfl | rfl | rfl
  · rw [h0, sF_eq h hj]; rfl
  · rw [h1, sT_eq h hj]; rfl
  · rw [h2, sD_eq h hj]; rfl
  · rw [h3]; rfl
  · rw [h4, ← ct14b h.R hj]; rfl
  · rw [h5, ← tol5 h hj]; rfl
  · rw [h6, ← ct14a h.R hj]; rfl
  · rw [h7]
    show ssn mn (al j) = _
    rw [ssn_eq h.R h.F hj]
    unfold mssn sSe
    rw [sBs_mbs]
    rfl
  · rw [h8, ← tol8 h hj]; rfl
theorem cou_all (h : IV N al be to od ph mn bu fi la fr tt) {w : Nat → Int32} (h0 : w 0 = nI N) (h1 : w 1 = phs ph N) (h2 : w 2 = nI (ct (sD N al be fr tt) N)) (h3 : w 3 = nI (ct (dtd fr) N)) (h4 : w 4 = nI (pB be N N)) (h5 : w 5 = nI (srt al N)) (h6 : w 6 = sI mn (4 * N)) : ∀ x, x < 7 → couV N al be to ph mn bu fi la x = w x := by
  intro x hx
  rcases (show x = 0 ∨ x = 1 ∨ x = 2 ∨ x = 3 ∨ x = 4 ∨ x = 5 ∨ x = 6 by omega) with rfl | rfl | rfl | rfl | rfl | rfl | rfl
  · rw [h0]; rfl
  · rw [h1]; rfl
  · rw [h2, ct_cong (fun k hk => sD_eq h hk)]; rfl
  · rw [h3]; exact cou3 h
  · rw [h4, pB_prs h.R N (Nat.le_refl _)]; rfl
  · rw [h5]; rfl
  · rw [h6]; exact cou6 h (Nat.le_refl 56)
theorem mean_cmp (hN : 0 < N) (h14 : N ≤ 14) : Op.cmpValue (FP.dcmp (meanV N ph) (FP.ddiv (FP.i2d (sI ph N)) (FP.i2d (nI N)))) CmpOp.l = 0 := by
  have h0 : ¬ nI N = 0 := nI_ne0 hN (by omega)
  have e : meanV N ph = FP.ddiv (FP.i2d (sI ph N)) (FP.i2d (nI N)) := by
    unfold meanV
    rw [if_neg h0]
  rw [e]
  exact Jvm.RoadKit.dcmpV_self (nonan _ h0) CmpOp.l
theorem mean_nan (hN : 0 < N) (h14 : N ≤ 14) : vf_n64 (FP.ddiv (FP.i2d (sI ph N)) (FP.i2d (nI N))) := nonan _ (nI_ne0 hN (by omega))
end PU2
