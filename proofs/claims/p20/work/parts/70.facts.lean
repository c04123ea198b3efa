/-! what the law asks after its acts: facts of the class's state -/
section LWF
variable {N : Nat} {al be to od ph mn : Nat → Int32} {bu : Int32} {fi la fr tt : Nat → Int32}
theorem le_tr {a b c : Int32} (h : a ≤ b) (h2 : b ≤ c) : a ≤ c := by
  rw [fa_le] at *
  omega
theorem le_rf (a : Int32) : a ≤ a := by
  rw [fa_le]
  exact Int.le_refl _
theorem imax_l (x y : Int32) : x ≤ imax x y := by
  unfold imax
  split
  · rename_i h; exact (fa_of_lt h).1
  · exact le_rf _
theorem imax_r (x y : Int32) : y ≤ imax x y := by
  unfold imax
  split
  · exact le_rf _
  · rename_i h; exact fa_of_nlt h
theorem imin_l (x y : Int32) : imin x y ≤ x := by
  unfold imin
  split
  · rename_i h; exact (fa_of_lt h).1
  · exact le_rf _
theorem imin_r (x y : Int32) : imin x y ≤ y := by
  unfold imin
  split
  · exact le_rf _
  · rename_i h; exact fa_of_nlt h
theorem gF_0 {set : Int32} : ∀ n, 0 ≤ gF fi set n
  | 0 => le_rf _
  | n + 1 => by
    simp only [gF]
    split
    · exact le_tr (gF_0 n) (imax_l _ _)
    · exact gF_0 n
theorem gF_up {set : Int32} {k : Nat} (hb : bt set k = true) : ∀ {n : Nat}, k < n → fi k ≤ gF fi set n
  | n + 1, hk => by
    simp only [gF]
    rcases Nat.lt_succ_iff_lt_or_eq.mp hk with h | h
    · split
      · exact le_tr (gF_up hb h) (imax_l _ _)
      · exact gF_up hb h
    · subst h
      rw [if_pos hb]
      exact imax_r _ _
theorem gF_at {set : Int32} : ∀ n, gF fi set n = 0 ∨ ∃ k, k < n ∧ bt set k = true ∧ gF fi set n = fi k
  | 0 => Or.inl rfl
  | n + 1 => by
    simp only [gF]
    have ih := gF_at (set := set) n
    by_cases hb : bt set n = true
    · rw [if_pos hb]
      unfold imax
      by_cases h : gF fi set n < fi n
      · rw [if_pos h]
        exact Or.inr ⟨n, by omega, hb, rfl⟩
      · rw [if_neg h]
        rcases ih with e | ⟨k, a, b, e⟩
        · exact Or.inl e
        · exact Or.inr ⟨k, by omega, b, e⟩
    · rw [if_neg hb]
      rcases ih with e | ⟨k, a, b, e⟩
      · exact Or.inl e
      · exact Or.inr ⟨k, by omega, b, e⟩
theorem lL_9 {set : Int32} : ∀ n, lL la set n ≤ 9999
  | 0 => le_rf _
  | n + 1 => by
    simp only [lL]
    split
    · exact le_tr (imin_l _ _) (lL_9 n)
    · exact lL_9 n
theorem lL_dn {set : Int32} {k : Nat} (hb : bt set k = true) : ∀ {n : Nat}, k < n → lL la set n ≤ la k
  | n + 1, hk => by
    simp only [lL]
    rcases Nat.lt_succ_iff_lt_or_eq.mp hk with h | h
    · split
      · exact le_tr (imin_l _ _) (lL_dn hb h)
      · exact lL_dn hb h
    · subst h
      rw [if_pos hb]
      exact imin_r _ _
theorem lL_at {set : Int32} : ∀ n, lL la set n = 9999 ∨ ∃ k, k < n ∧ bt set k = true ∧ lL la set n = la k
  | 0 => Or.inl rfl
  | n + 1 => by
    simp only [lL]
    have ih := lL_at (set := set) n
    by_cases hb : bt set n = true
    · rw [if_pos hb]
      unfold imin
      by_cases h : la n < lL la set n
      · rw [if_pos h]
        exact Or.inr ⟨n, by omega, hb, rfl⟩
      · rw [if_neg h]
        rcases ih with e | ⟨k, a, b, e⟩
        · exact Or.inl e
        · exact Or.inr ⟨k, by omega, b, e⟩
    · rw [if_neg hb]
      rcases ih with e | ⟨k, a, b, e⟩
      · exact Or.inl e
      · exact Or.inr ⟨k, by omega, b, e⟩
theorem fY_mono {i j : Nat} (h : ∀ k, bt (al j ||| be j) k = true → bt (al i ||| be i) k = true) : fY al be fi j ≤ fY al be fi i := by
  unfold fY
  rcases gF_at (fi := fi) (set := al j ||| be j) 14 with e | ⟨k, hk, hb, e⟩
  · rw [e]; exact gF_0 _
  · rw [e]; exact gF_up (h k hb) hk
theorem lY_mono {i j : Nat} (h : ∀ k, bt (al i ||| to i) k = true → bt (al j ||| to j) k = true) : lY al to la j ≤ lY al to la i := by
  unfold lY
  rcases lL_at (la := la) (set := al i ||| to i) 14 with e | ⟨k, hk, hb, e⟩
  · rw [e]; exact lL_9 _
  · rw [e]; exact lL_dn (h k hb) hk
theorem nlt_le {a b : Int32} (h : b ≤ a) : ¬ a < b := fun q => (fa_of_lt q).2.1 h
/-- a later layer -/
theorem lw_later (R : RI N al be to) {i j : Nat} (hi : i < N) (q : bt (be i) j = true) : ¬ fY al be fi i < fY al be fi j ∧ ¬ lY al to la i < lY al to la j ∧ bt (al i) j = false := by
  have hj := R.ltB hi q
  refine ⟨nlt_le (fY_mono (fun k hk => ?_)), nlt_le (lY_mono (fun k hk => ?_)), ?_⟩
  · rw [b_or, Bool.or_eq_true] at hk ⊢
    rcases hk with hk | hk
    · exact Or.inr (R.2.1.2.2.2.2.2 i j k ⟨hi, q⟩ ⟨hj, hk⟩).2
    · exact Or.inr (R.trB hi q hk)
  · rw [b_or, Bool.or_eq_true] at hk ⊢
    right
    rw [R.toL hj]
    rcases hk with hk | hk
    · exact R.2.1.2.2.2.2.1 i k j ⟨hi, hk⟩ ⟨hi, q⟩
    · rw [R.toL hi] at hk
      exact R.2.1.2.2.2.1 k i j hk ⟨hi, q⟩
  · cases c : bt (al i) j with
    | false => rfl
    | true => exact absurd (R.2.1.2.2.2.2.1 i j j ⟨hi, c⟩ ⟨hi, q⟩).2 (R.irr hj)
/-- the same layer -/
theorem lw_same (h : IV N al be to od ph mn bu fi la fr tt) {i j : Nat} (hi : i < N) (q : bt (al i) j = true) {w : Nat} (hw : w < 8) : tolV N al be to ph mn bu fi la j w = tolV N al be to ph mn bu fi la i w := by
  have hj := h.R.ltA hi q
  have ea : al i = al j := h.R.eEq ⟨hi, q⟩
  have eb : be i = be j := h.R.bEq ⟨hi, q⟩
  have q2 := h.R.sym hi q
  have et : to i = to j := bt_ext2 (fun x => by
    rw [h.R.toL hi, h.R.toL hj]
    exact ⟨fun z => h.R.2.1.2.2.2.2.2 x i j z ⟨hi, q⟩, fun z => h.R.2.1.2.2.2.2.2 x j i z ⟨hj, q2⟩⟩)
  have ep : ph i = ph j := by rw [h.P.1 i hi, h.P.1 j hj, eb]
  have e0 : fY al be fi j = fY al be fi i := by unfold fY; rw [ea, eb]
  have e1 : lY al to la j = lY al to la i := by unfold lY; rw [ea, et]
  rcases (show w = 0 ∨ w = 1 ∨ w = 2 ∨ w = 3 ∨ w = 4 ∨ w = 5 ∨ w = 6 ∨ w = 7 by omega) with rfl | rfl | rfl | rfl | rfl | rfl | rfl | rfl
  · exact e0
  · exact e1
  · show bI (dbt al be to fi la j) = bI (dbt al be to fi la i)
    unfold dbt
    rw [e0, e1]
  · exact ep.symm
  · show nI (ct (bt (be j)) 14) = nI (ct (bt (be i)) 14)
    rw [eb]
  · show nI (ct (bt (to j)) 14) = nI (ct (bt (to i)) 14)
    rw [et]
  · show nI (ct (bt (al j)) 14) = nI (ct (bt (al i)) 14)
    rw [ea]
  · show ssn mn (al j) = ssn mn (al i)
    rw [ea]
theorem lw_f0 (h : IV N al be to od ph mn bu fi la fr tt) {j : Nat} (hj : j < N) : ¬ fY al be fi j < 0 := nlt_le (fY_eq h.R h.H hj).2.1
theorem lw_t9 (h : IV N al be to od ph mn bu fi la fr tt) {j : Nat} (hj : j < N) : ¬ 9999 < lY al to la j := nlt_le (lY_eq h.R h.H hj).2.2
theorem lw_own (h : IV N al be to od ph mn bu fi la fr tt) {j : Nat} (hj : j < N) (d : ¬ fr j < 0) : ¬ fY al be fi j < fr j ∧ lY al to la j ≤ tt j := by
  have h14 := h.R.1
  obtain ⟨e1, e2, -⟩ := (h.H j hj).1 (h.dtd1 hj d)
  have hb := h.R.rfA hj
  constructor
  · rw [← e1]
    exact nlt_le (gF_up (by rw [b_or, hb]; rfl) (by omega))
  · rw [← e2]
    exact lL_dn (by rw [b_or, hb]; rfl) (by omega)
def orB (z : Bool) (f : Nat → Bool) : Nat → Bool
  | 0 => z
  | k + 1 => orB z f k || f k
theorem orB_at {z : Bool} {f : Nat → Bool} : ∀ {n : Nat}, orB z f n = true ↔ z = true ∨ ∃ k, k < n ∧ f k = true
  | 0 => by simp [orB]
  | n + 1 => by
    simp only [orB, Bool.or_eq_true]
    rw [orB_at]
    constructor
    · rintro ((a | ⟨k, a, b⟩) | a)
      · exact Or.inl a
      · exact Or.inr ⟨k, by omega, b⟩
      · exact Or.inr ⟨n, by omega, a⟩
    · rintro (a | ⟨k, a, b⟩)
      · exact Or.inl (Or.inl a)
      · rcases Nat.lt_succ_iff_lt_or_eq.mp a with q | q
        · exact Or.inl (Or.inr ⟨k, q, b⟩)
        · subst q; exact Or.inr b
theorem lw_12 (h : IV N al be to od ph mn bu fi la fr tt) {j : Nat} (hj : j < N) : orB (decide (fY al be fi j = 0)) (fun k => decide (fr k = fY al be fi j) && (bt (al j) k || bt (be j) k)) N = true := by
  rw [orB_at]
  rcases gF_at (fi := fi) (set := al j ||| be j) 14 with e | ⟨k, hk, hb, e⟩
  · exact Or.inl (decide_eq_true e)
  · rw [b_or] at hb
    have hkN : k < N := by
      rcases (Bool.or_eq_true _ _).mp hb with z | z
      · exact h.R.ltA hj z
      · exact h.R.ltB hj z
    cases d : dtd fr k with
    | true =>
      refine Or.inr ⟨k, hkN, ?_⟩
      have e2 : fr k = fY al be fi j := ((h.H k hkN).1 d).1.symm.trans e.symm
      show (decide (fr k = fY al be fi j) && (bt (al j) k || bt (be j) k)) = true
      rw [hb, decide_eq_true e2]; rfl
    | false =>
      left
      exact decide_eq_true (e.trans ((h.H k hkN).2 d).1)
theorem lw_13 (h : IV N al be to od ph mn bu fi la fr tt) {j : Nat} (hj : j < N) : orB (decide (lY al to la j = 9999)) (fun k => !decide (fr k < 0) && (decide (tt k = lY al to la j) && (bt (al j) k || bt (be k) j))) N = true := by
  rw [orB_at]
  rcases lL_at (la := la) (set := al j ||| to j) 14 with e | ⟨k, hk, hb, e⟩
  · exact Or.inl (decide_eq_true e)
  · rw [b_or] at hb
    have hkN : k < N := by
      rcases (Bool.or_eq_true _ _).mp hb with z | z
      · exact h.R.ltA hj z
      · exact ((h.R.toL hj).mp z).1
    rw [to_b h.R hj hkN] at hb
    cases d : dtd fr k with
    | true =>
      refine Or.inr ⟨k, hkN, ?_⟩
      have e2 : tt k = lY al to la j := ((h.H k hkN).1 d).2.1.symm.trans e.symm
      have e3 : ¬ fr k < 0 := fun q => by rw [(h.neg hkN).mp q] at d; cases d
      show (!decide (fr k < 0) && (decide (tt k = lY al to la j) && (bt (al j) k || bt (be k) j))) = true
      rw [hb, decide_eq_true e2, decide_eq_false e3]; rfl
    | false =>
      left
      exact decide_eq_true (e.trans ((h.H k hkN).2 d).2)
theorem lw_c3 (h : IV N al be to od ph mn bu fi la fr tt) : nI (ct (bt bu) 14) = nI (ct (bt bu) N) := congrArg nI (ct_ext (fun k hk => by rw [h.B k, decide_eq_false (by omega)]; rfl) h.R.1)
theorem lw_b8 (h : IV N al be to od ph mn bu fi la fr tt) {j : Nat} (hj : j < N) : bt bu j = dtd fr j := by rw [h.B j, decide_eq_true hj, Bool.true_and]
theorem mbs_ok (w : Nat → Int32) : ∀ n, mbs w (n + 1) < n + 1 ∧ (∀ i, i < n + 1 → ¬ w (mbs w (n + 1)) < w i) ∧ ∀ i, i < mbs w (n + 1) → w i < w (mbs w (n + 1))
  | 0 => by
    have e : mbs w 1 = 0 := by simp [mbs]
    rw [e]
    exact ⟨by omega, fun i hi => by rw [show i = 0 by omega]; exact nlt_le (le_rf _), fun i hi => absurd hi (Nat.not_lt_zero i)⟩
  | n + 1 => by
    obtain ⟨h1, h2, h3⟩ := mbs_ok w n
    by_cases c : w (mbs w (n + 1)) < w (n + 1)
    · have e : mbs w (n + 1 + 1) = n + 1 := if_pos c
      rw [e]
      have key : ∀ i, i < n + 1 → w i < w (n + 1) := fun i hi => by
        have := h2 i hi
        rw [fa_lt] at *
        omega
      refine ⟨by omega, fun i hi => ?_, key⟩
      rcases Nat.lt_succ_iff_lt_or_eq.mp hi with q | q
      · exact nlt_le (fa_of_lt (key i q)).1
      · rw [q]; exact nlt_le (le_rf _)
    · have e : mbs w (n + 1 + 1) = mbs w (n + 1) := if_neg c
      rw [e]
      refine ⟨by omega, fun i hi => ?_, h3⟩
      rcases Nat.lt_succ_iff_lt_or_eq.mp hi with q | q
      · exact h2 i q
      · rw [q]; exact c
/-- the season that the class tells -/
theorem lw_sea (h : IV N al be to od ph mn bu fi la fr tt) {j : Nat} (hj : j < N) : (ssn mn (al j) = -1 ∧ sS mn (al j) 0 14 + sS mn (al j) 1 14 + sS mn (al j) 2 14 + sS mn (al j) 3 14 = 0) ∨ ∃ k, k < 4 ∧ ssn mn (al j) = nI k ∧ ¬ sS mn (al j) 0 14 + sS mn (al j) 1 14 + sS mn (al j) 2 14 + sS mn (al j) 3 14 = 0 ∧ (∀ i, i < 4 → ¬ tel (sS mn (al j) 0 14) (sS mn (al j) 1 14) (sS mn (al j) 2 14) (sS mn (al j) 3 14) k < tel (sS mn (al j) 0 14) (sS mn (al j) 1 14) (sS mn (al j) 2 14) (sS mn (al j) 3 14) i) ∧ ∀ i, i < k → ¬ tel (sS mn (al j) 0 14) (sS mn (al j) 1 14) (sS mn (al j) 2 14) (sS mn (al j) 3 14) i = tel (sS mn (al j) 0 14) (sS mn (al j) 1 14) (sS mn (al j) 2 14) (sS mn (al j) 3 14) k := by
  have e := ssn_eq h.R h.F hj
  rw [← sS_eq h.R hj, ← sS_eq h.R hj, ← sS_eq h.R hj, ← sS_eq h.R hj] at e
  unfold mssn at e
  by_cases c : sS mn (al j) 0 14 + sS mn (al j) 1 14 + sS mn (al j) 2 14 + sS mn (al j) 3 14 = 0
  · rw [if_pos c] at e
    exact Or.inl ⟨e, c⟩
  · rw [if_neg c] at e
    obtain ⟨h1, h2, h3⟩ := mbs_ok (tel (sS mn (al j) 0 14) (sS mn (al j) 1 14) (sS mn (al j) 2 14) (sS mn (al j) 3 14)) 3
    exact Or.inr ⟨_, h1, e, c, h2, fun i hi => (fa_of_lt (h3 i hi)).2.2.2.1⟩
/-- doubtful layers, when one hearth is gone -/
def blC (N : Nat) (al be to fi la : Nat → Int32) (j : Nat) : Int32 := nI (ct (dbt al be to (upd fi j 0) (upd la j 9999)) N)
theorem bl_ok : ∀ k, (blB N al be to fi la k = -1 ∧ blM N al be to fi la k = nI (ct (dbt al be to fi la) N) ∧ ∀ i, i < k → ¬ blC N al be to fi la i < nI (ct (dbt al be to fi la) N)) ∨ ∃ j, j < k ∧ blB N al be to fi la k = nI j ∧ blM N al be to fi la k = blC N al be to fi la j ∧ blC N al be to fi la j < nI (ct (dbt al be to fi la) N) ∧ (∀ i, i < k → ¬ blC N al be to fi la i < blC N al be to fi la j) ∧ ∀ i, i < j → ¬ blC N al be to fi la i = blC N al be to fi la j
  | 0 => Or.inl ⟨rfl, rfl, fun i hi => absurd hi (Nat.not_lt_zero i)⟩
  | k + 1 => by
    have u1 : blM N al be to fi la (k + 1) = if blC N al be to fi la k < blM N al be to fi la k then blC N al be to fi la k else blM N al be to fi la k := rfl
    have u2 : blB N al be to fi la (k + 1) = if blC N al be to fi la k < blM N al be to fi la k then nI k else blB N al be to fi la k := rfl
    rw [u1, u2]
    rcases bl_ok k with ⟨h1, h2, h3⟩ | ⟨j, hj, h1, h2, h3, h4, h5⟩
    · rw [h1, h2]
      by_cases c : blC N al be to fi la k < nI (ct (dbt al be to fi la) N)
      · rw [if_pos c, if_pos c]
        refine Or.inr ⟨k, by omega, rfl, rfl, c, fun i hi => ?_, fun i hi => ?_⟩
        · rcases Nat.lt_succ_iff_lt_or_eq.mp hi with q | q
          · have := h3 i q
            rw [fa_lt] at *
            omega
          · rw [q]; exact nlt_le (le_rf _)
        · intro q
          have := h3 i hi
          rw [q] at this
          exact this c
      · rw [if_neg c, if_neg c]
        refine Or.inl ⟨rfl, rfl, fun i hi => ?_⟩
        rcases Nat.lt_succ_iff_lt_or_eq.mp hi with q | q
        · exact h3 i q
        · rw [q]; exact c
    · rw [h1, h2]
      by_cases c : blC N al be to fi la k < blC N al be to fi la j
      · rw [if_pos c, if_pos c]
        have c0 : blC N al be to fi la k < nI (ct (dbt al be to fi la) N) := by
          rw [fa_lt] at *
          omega
        refine Or.inr ⟨k, by omega, rfl, rfl, c0, fun i hi => ?_, fun i hi => ?_⟩
        · rcases Nat.lt_succ_iff_lt_or_eq.mp hi with q | q
          · have := h4 i q
            rw [fa_lt] at *
            omega
          · rw [q]; exact nlt_le (le_rf _)
        · intro q
          have := h4 i hi
          rw [q] at this
          exact this c
      · rw [if_neg c, if_neg c]
        refine Or.inr ⟨j, by omega, rfl, rfl, h3, fun i hi => ?_, h5⟩
        rcases Nat.lt_succ_iff_lt_or_eq.mp hi with q | q
        · exact h4 i q
        · rw [q]; exact c
theorem lw_bl (h : IV N al be to od ph mn bu fi la fr tt) : blB N al be to fi la N = -1 ∨ ∃ j, j < N ∧ blB N al be to fi la N = nI j ∧ dtd fr j = true ∧ 0 < ct (dbt al be to fi la) N ∧ blC N al be to fi la j < nI (ct (dbt al be to fi la) N) ∧ (∀ i, i < N → ¬ blC N al be to fi la i < blC N al be to fi la j) ∧ ∀ i, i < j → ¬ blC N al be to fi la i = blC N al be to fi la j := by
  rcases bl_ok (N := N) (al := al) (be := be) (to := to) (fi := fi) (la := la) N with ⟨h1, -, -⟩ | ⟨j, hj, h1, h2, h3, h4, h5⟩
  · exact Or.inl h1
  · refine Or.inr ⟨j, hj, h1, ?_, ?_, h3, h4, h5⟩
    · cases d : dtd fr j with
      | true => rfl
      | false =>
        exfalso
        obtain ⟨f1, f2⟩ := (h.H j hj).2 d
        have u1 : upd fi j 0 = fi := by funext x; unfold upd; by_cases e : x = j <;> simp [e, f1]
        have u2 : upd la j 9999 = la := by funext x; unfold upd; by_cases e : x = j <;> simp [e, f2]
        unfold blC at h3
        rw [u1, u2] at h3
        exact nlt_le (le_rf _) h3
    · have h14 := h.R.1
      have c1 := ct_le (dbt al be to fi la) N
      have c2 := ct_le (dbt al be to (upd fi j 0) (upd la j 9999)) N
      have := (nI_ltI (by omega) (by omega)).mp h3
      omega
theorem lw_bu (h : IV N al be to od ph mn bu fi la fr tt) {j : Nat} (hj : j < N) (d : dtd fr j = true) : (bu &&& (((1 : Int32) <<< (nI j &&& 31)) ^^^ (-1))) ||| ((1 : Int32) <<< (nI j &&& 31)) = bu := bt_ext (fun i => by
  have h14 := h.R.1
  rw [b_or, bt_andn, bt_one (by omega)]
  by_cases e : i = j
  · rw [e, lw_b8 h hj, d]; simp
  · simp [e])
theorem lw_fi {f : Nat → Int32} {j : Nat} {x y : Int32} (e : f j = y) : upd (upd f j x) j y = f := by rw [← e]; exact upd_back
theorem rg_nat {y : Int32} (h : rg y) : ∃ n, n ≤ 9999 ∧ y = nI n := nI_of2 (M := 9999) (n := 9999) rfl (nlt_le h.1) h.2
theorem lw_ft (h : IV N al be to od ph mn bu fi la fr tt) (h5 : ∀ k, dtd fr k = true → fr k ≤ tt k) {j : Nat} (hj : j < N) (d : dtd fr j = true) : ∃ f t : Nat, fr j = nI f ∧ tt j = nI t ∧ f ≤ t ∧ t ≤ 9999 ∧ fi j = nI f ∧ la j = nI t := by
  obtain ⟨e1, e2, e3, e4⟩ := (h.H j hj).1 d
  obtain ⟨f, hf, ef⟩ := rg_nat e3
  obtain ⟨t, ht, et⟩ := rg_nat e4
  have := h5 j d
  rw [ef, et] at this
  exact ⟨f, t, ef, et, (nI_leI (by omega) (by omega)).mp this, ht, e1.trans ef, e2.trans et⟩
theorem PU_0 {od ph : Nat → Int32} : PU 0 (fun _ => 0) (fun _ => 0) (fun _ => 0) od ph (fun _ => 0) 0 (cpF (fun _ => 0) (fun _ => 0) 14) (cpF (fun _ => 0) (fun _ => 9999) 14) (fun _ => -1) (fun _ => -1) 0 (fun _ => 0) (fun _ => 0) 0 (fun _ => 0) (fun _ => 0) 0 := ⟨IV_0, by omega, ⟨fun t ht => absurd ht (Nat.not_lt_zero t), fun S _ _ _ i j hi => absurd hi (Nat.not_lt_zero i)⟩, ⟨fun t ht => absurd ht (Nat.not_lt_zero t), fun S _ _ i j hi => absurd hi (Nat.not_lt_zero i)⟩, ⟨fun k _ => rfl, fun k q => absurd q (by show ¬ (!decide ((-1 : Int32) = -1)) = true; decide)⟩, by omega⟩
end LWF
