/-! what holds between the class's state and the reference's, and the answers -/
def IV (N : Nat) (al be to od ph mn : Nat → Int32) (bu : Int32) (fi la fr tt : Nat → Int32) : Prop := RI N al be to ∧ PH N be ph ∧ (∀ k, k < N → od k = nI (arN N be k)) ∧ FN N mn ∧ HR N fi la fr tt ∧ (∀ j, bt bu j = (decide (j < N) && dtd fr j)) ∧ ∀ j, N ≤ j → j < 14 → fi j = 0 ∧ la j = 9999
section IVS
variable {N : Nat} {al be to od ph mn : Nat → Int32} {bu : Int32} {fi la fr tt : Nat → Int32}
theorem IV.R (h : IV N al be to od ph mn bu fi la fr tt) : RI N al be to := h.1
theorem IV.P (h : IV N al be to od ph mn bu fi la fr tt) : PH N be ph := h.2.1
theorem IV.O (h : IV N al be to od ph mn bu fi la fr tt) : ∀ k, k < N → od k = nI (arN N be k) := h.2.2.1
theorem IV.F (h : IV N al be to od ph mn bu fi la fr tt) : FN N mn := h.2.2.2.1
theorem IV.H (h : IV N al be to od ph mn bu fi la fr tt) : HR N fi la fr tt := h.2.2.2.2.1
theorem IV.B (h : IV N al be to od ph mn bu fi la fr tt) : ∀ j, bt bu j = (decide (j < N) && dtd fr j) := h.2.2.2.2.2.1
theorem IV.Z (h : IV N al be to od ph mn bu fi la fr tt) : ∀ j, N ≤ j → j < 14 → fi j = 0 ∧ la j = 9999 := h.2.2.2.2.2.2
theorem IV.su (h : IV N al be to od ph mn bu fi la fr tt) : small bu := fun i hi => by
  have := h.R.1
  rw [h.B i, decide_eq_false (by omega)]; rfl
theorem IV_0 {od ph fr tt : Nat → Int32} : IV 0 (fun _ => 0) (fun _ => 0) (fun _ => 0) od ph (fun _ => 0) 0 (cpF (fun _ => 0) (fun _ => 0) 14) (cpF (fun _ => 0) (fun _ => 9999) 14) fr tt := by
  refine ⟨RI_0, ⟨fun x hx => absurd hx (Nat.not_lt_zero x), fun x hx => absurd hx (Nat.not_lt_zero x)⟩, fun k hk => absurd hk (Nat.not_lt_zero k), FN_0, fun k hk => absurd hk (Nat.not_lt_zero k), fun j => ?_, fun j _ hj => ?_⟩
  · rw [b_0]; rfl
  · unfold cpF
    rw [if_pos hj, if_pos hj]
    exact ⟨rfl, rfl⟩
theorem IV_find (h : IV N al be to od ph mn bu fi la fr tt) (hN : N < 14) : IV (N + 1) (upd al N ((1 : Int32) <<< (nI N &&& 31))) be to (arO (N + 1) be od (N + 1)) (arP (N + 1) be ph (N + 1)) mn bu fi la (upd fr N (-1)) tt := by
  have R := RI_find h.R hN
  refine ⟨R, PH_ar R, fun k hk => arO_at hk, FN_find h.F, HR_find h.H (h.Z N (Nat.le_refl _) hN), fun j => ?_, fun j a b => h.Z j (by omega) b⟩
  rw [dtd_upd, h.B j]
  by_cases e : j = N
  · subst e
    simp
  · rw [if_neg e]
    by_cases q : j < N
    · rw [decide_eq_true q, decide_eq_true (by omega : j < N + 1)]
    · rw [decide_eq_false q, decide_eq_false (by omega : ¬ j < N + 1)]
theorem IV_rel (h : IV N al be to od ph mn bu fi la fr tt) {al2 be2 to2 : Nat → Int32} (R : RI N al2 be2 to2) : IV N al2 be2 to2 (arO N be2 od N) (arP N be2 ph N) mn bu fi la fr tt := ⟨R, PH_ar R, fun _ hk => arO_at hk, h.F, h.H, h.B, h.Z⟩
theorem IV_sift (h : IV N al be to od ph mn bu fi la fr tt) {i kd : Nat} {z : Int32} (hi : i < N) (hk : kd < 4) (hz : isL z 100) : IV N al be to od ph (upd mn (i * 4 + kd) z) bu fi la fr tt := ⟨h.R, h.P, h.O, FN_put h.F hi hk hz, h.H, h.B, h.Z⟩
theorem nbadS {f t : Int32} (h : ¬ badS f t) : rg f ∧ rg t := by
  unfold badS at h
  unfold rg
  have h1 : ¬ f < 0 := fun q => h (Or.inl q)
  have h2 : ¬ 9999 < t := fun q => h (Or.inr (Or.inl q))
  have h3 : f ≤ t := Decidable.byContradiction (fun q => h (Or.inr (Or.inr q)))
  rw [fa_lt] at h1 h2
  simp only [fa_le] at h3 ⊢
  have e0 : (0 : Int32).toInt = 0 := rfl
  have e9 : (9999 : Int32).toInt = 9999 := rfl
  rw [e0] at h1 ⊢
  rw [e9] at h2 ⊢
  omega
theorem rg_isL {y : Int32} (h : isL y 10000) : rg y := by
  obtain ⟨k, hk, rfl⟩ := h
  exact ⟨(nI_leI (a := 0) (by omega) (by omega)).mpr (by omega), (nI_leI (b := 9999) (by omega) (by omega)).mpr (by omega)⟩
theorem IV_hearth (h : IV N al be to od ph mn bu fi la fr tt) {j : Nat} {f t : Int32} (hj : j < N) (hb : ¬ badS f t) : IV N al be to od ph mn (bu ||| ((1 : Int32) <<< (nI j &&& 31))) (upd fi j f) (upd la j t) (upd fr j f) (upd tt j t) := by
  obtain ⟨hf, ht⟩ := nbadS hb
  have hN := h.R.1
  refine ⟨h.R, h.P, h.O, h.F, HR_put h.H hf ht, fun k => ?_, fun k a b => ?_⟩
  · rw [b_or, bt_one (by omega), h.B k, dtd_upd]
    by_cases e : k = j
    · subst e
      simp [hj, rg_n1 hf.1]
    · simp [e]
  · unfold upd
    rw [if_neg (by omega), if_neg (by omega)]
    exact h.Z k a b
theorem IV_clear (h : IV N al be to od ph mn bu fi la fr tt) {j : Nat} (hj : j < N) : IV N al be to od ph mn (bu &&& (((1 : Int32) <<< (nI j &&& 31)) ^^^ (-1))) (upd fi j 0) (upd la j 9999) (upd fr j (-1)) tt := by
  have hN := h.R.1
  refine ⟨h.R, h.P, h.O, h.F, HR_take h.H, fun k => ?_, fun k a b => ?_⟩
  · rw [bt_andn, bt_one (by omega), h.B k, dtd_upd]
    by_cases e : k = j
    · subst e
      simp
    · simp [e]
  · unfold upd
    rw [if_neg (by omega), if_neg (by omega)]
    exact h.Z k a b
theorem ct_ext {p : Nat → Bool} {N : Nat} (h : ∀ k, N ≤ k → p k = false) : ∀ {n : Nat}, N ≤ n → ct p n = ct p N
  | 0, q => by have : N = 0 := by omega
               subst this; rfl
  | n + 1, q => by
    by_cases e : N = n + 1
    · rw [e]
    · simp only [ct]
      rw [ct_ext h (n := n) (by omega), h n (by omega)]
      rfl
theorem out_f {x : Int32} {N k : Nat} (h : ∀ i, bt x i = true → i < N) (q : N ≤ k) : bt x k = false := by
  cases c : bt x k with
  | false => rfl
  | true => have := h k c; omega
theorem to_b (R : RI N al be to) {j k : Nat} (hj : j < N) (hk : k < N) : bt (to j) k = bt (be k) j := by
  have q := R.2.2.2.2.2.1 j hj k
  cases c : bt (be k) j with
  | true => exact q.mpr ⟨hk, c⟩
  | false =>
    cases d : bt (to j) k with
    | false => rfl
    | true => rw [c] at q; exact absurd (q.mp d).2 (by decide)
theorem tol5 (h : IV N al be to od ph mn bu fi la fr tt) {j : Nat} (hj : j < N) : nI (ct (bt (to j)) 14) = nI (ct (fun k => bt (be k) j) N) := by
  rw [ct_ext (N := N) (fun k hk => out_f (fun i q => ((h.R.toL hj).mp q).1) hk) h.R.1, ct_cong (fun k hk => to_b h.R hj hk)]
theorem tol8 (h : IV N al be to od ph mn bu fi la fr tt) {j : Nat} (hj : j < N) : bI (bt bu j) = bI (dtd fr j) := by
  rw [h.B j, decide_eq_true hj, Bool.true_and]
theorem tolE {j w : Nat} (hw : w < 9) (e0 : fY al be fi j = mF fr (al j ||| be j) N) (e1 : lY al to la j = mT al be fr tt j N) (e2 : dbt al be to fi la j = mdb N al be fr tt j) (e3 : ph j = ph1 N be N j) (e5 : nI (ct (bt (to j)) 14) = nI (ct (fun k => bt (be k) j) N)) (e7 : ssn mn (al j) = mssn (mA mn (al j) 0 N) (mA mn (al j) 1 N) (mA mn (al j) 2 N) (mA mn (al j) 3 N)) (e8 : bI (bt bu j) = bI (dtd fr j)) : tolV N al be to ph mn bu fi la j w = mtol N al be mn fr tt j w := by
  rcases (show w = 0 ∨ w = 1 ∨ w = 2 ∨ w = 3 ∨ w = 4 ∨ w = 5 ∨ w = 6 ∨ w = 7 ∨ w = 8 by omega) with rfl | rfl | rfl | rfl | rfl | rfl | rfl | rfl | rfl
  · simp only [tolV, mtol]; exact e0
  · simp only [tolV, mtol]; exact e1
  · simp only [tolV, mtol]; rw [e2]
  · simp only [tolV, mtol]; exact e3
  · simp only [tolV, mtol]
  · simp only [tolV, mtol]; exact e5
  · simp only [tolV, mtol]
  · simp only [tolV, mtol]; exact e7
  · simp only [tolV, mtol]; exact e8
theorem IV.tol (h : IV N al be to od ph mn bu fi la fr tt) {j w : Nat} (hj : j < N) (hw : w < 9) : tolV N al be to ph mn bu fi la j w = mtol N al be mn fr tt j w :=
  tolE hw (fY_eq h.R h.H hj).1 (lY_eq h.R h.H hj).1 (dbt_eq h.R h.H hj) (ph1_eq h.R h.P hj).symm (tol5 h hj) (ssn_eq h.R h.F hj) (tol8 h hj)
theorem cou3 (h : IV N al be to od ph mn bu fi la fr tt) : nI (ct (bt bu) 14) = nI (ct (dtd fr) N) :=
  congrArg nI ((ct_ext (N := N) (fun k hk => by rw [h.B k, decide_eq_false (by omega)]; rfl) h.R.1).trans (ct_cong (fun k hk => by rw [h.B k, decide_eq_true hk, Bool.true_and])))
theorem cou6 (h : IV N al be to od ph mn bu fi la fr tt) {n : Nat} (hn : 56 ≤ n) : sI mn n = sI mn (4 * N) := by
  have := h.R.1
  exact sI_ext h.F.2 (by omega)
theorem IV.cou (h : IV N al be to od ph mn bu fi la fr tt) {w : Nat} (hw : w < 7) : couV N al be to ph mn bu fi la w = mcou N al be mn fr tt w := by
  rcases (show w = 0 ∨ w = 1 ∨ w = 2 ∨ w = 3 ∨ w = 4 ∨ w = 5 ∨ w = 6 by omega) with rfl | rfl | rfl | rfl | rfl | rfl | rfl
  · simp only [couV, mcou]
  · simp only [couV, mcou]; exact phs_eq h.R h.P
  · simp only [couV, mcou]; exact congrArg nI (ctd_eq h.R h.H)
  · simp only [couV, mcou]; exact cou3 h
  · simp only [couV, mcou]
  · simp only [couV, mcou]
  · simp only [couV, mcou]; exact cou6 h (Nat.le_refl 56)
theorem IV.mean (h : IV N al be to od ph mn bu fi la fr tt) : meanV N ph = mmean N be := by
  unfold meanV mmean
  rw [sI_ext (f := ph1 N be N) (N := N) (fun p hp => ph1_out h.R h.P hp) h.R.1, sI_cong (f := ph1 N be N) (g := ph) (fun k hk => ph1_eq h.R h.P hk)]
theorem mxT_cong {f g : Nat → Int32} {d : Int64} : ∀ {n : Nat}, (∀ k, k < n → f k = g k) → mxT f d n = mxT g d n
  | 0, _ => rfl
  | n + 1, h => by simp only [mxT]; rw [mxT_cong (fun k hk => h k (by omega)), h n (by omega)]
theorem IV.mx (h : IV N al be to od ph mn bu fi la fr tt) {d : Int64} : ∀ {n : Nat}, n ≤ N → mxN N al be to ph mn bu fi la d n = mxM N al be mn fr tt d n
  | 0, _ => rfl
  | n + 1, hn => by
    simp only [mxN, mxM, mxL]
    rw [h.mx (n := n) (by omega), mxT_cong (f := tolV N al be to ph mn bu fi la n) (n := 9) (fun k hk => h.tol (by omega) hk), mxT_cong (f := fun kd => sS mn (al n) kd 14) (n := 4) (fun k _ => sS_eq h.R (by omega))]
theorem IV.dig (h : IV N al be to od ph mn bu fi la fr tt) : digV N al be to od ph mn bu fi la = mdig N al be mn fr tt := by
  unfold digV mdig
  rw [h.mx (Nat.le_refl _), mxT_cong (f := couV N al be to ph mn bu fi la) (n := 7) (fun k hk => h.cou hk), mxT_cong (f := od) (n := N) (fun k hk => h.O k hk)]
theorem btw1 (R : RI N al be to) {i j : Nat} (hi : i < N) (hj : j < N) : ct (bt (be i &&& to j)) 14 = ct (fun k => bt (be i) k && bt (be k) j) N := by
  rw [ct_ext (N := N) (fun k hk => by rw [b_and, out_f (R.2.2.2.2.1 i hi) hk]; rfl) R.1]
  exact ct_cong (fun k hk => by rw [b_and, to_b R hj hk])
theorem IV.btw (h : IV N al be to od ph mn bu fi la fr tt) {i j : Nat} (hi : i < N) (hj : j < N) : xbtw be to i j = mbtw N be i j := by
  unfold xbtw mbtw
  rw [btw1 h.R hi hj, btw1 h.R hj hi]
theorem ct_or {x y : Int32} : ∀ n, ct (bt (x ||| y)) n = ct (bt x) n + ct (bt (y &&& (x ^^^ (-1)))) n
  | 0 => rfl
  | n + 1 => by
    simp only [ct]
    rw [ct_or n, b_or, bt_andn]
    cases bt x n <;> cases bt y n <;> simp <;> omega
theorem prs_lk {up lo : Int32} : ∀ n, n ≤ N → prs (lkU be up lo N) n = prs be n + prM be up lo n
  | 0, _ => rfl
  | n + 1, hn => by
    simp only [prs, prM]
    rw [prs_lk n (by omega)]
    have e : lkU be up lo N n = if bt up n = true then be n ||| lo else be n := by
      unfold lkU
      rw [decide_eq_true (by omega : n < N), Bool.true_and]
    rw [e]
    cases c : bt up n with
    | true => rw [if_pos rfl, if_pos rfl, ct_or]; omega
    | false => rw [if_neg (by decide), if_neg (by decide)]; omega
theorem prs_tell {up lo : Int32} : nI (prs (lkU be up lo N) N) - nI (prs be N) = nI (prM be up lo N) := by
  rw [prs_lk N (Nat.le_refl _), ← nI_add]
  generalize nI (prs be N) = a
  generalize nI (prM be up lo N) = b
  grind
theorem IV.bl (h : IV N al be to od ph mn bu fi la fr tt) : blB N al be to fi la N = mblB N al be fr tt N := (bl_eq h.R h.H N (Nat.le_refl _)).2
theorem IV.na (h : IV N al be to od ph mn bu fi la fr tt) {j : Nat} {y : Int32} (hy : isL y 10000) : naS al be to fi la (upd fi j y) (upd la j y) N = mnaS N al be fr tt (upd fr j y) (upd tt j y) N := na_eq h.R h.H (HR_put h.H (rg_isL hy) (rg_isL hy)) N (Nat.le_refl _)
theorem IV.hea (h : IV N al be to od ph mn bu fi la fr tt) {j : Nat} {f t : Int32} (hj : j < N) (hb : ¬ badS f t) : fY al be (upd fi j f) j = mF (upd fr j f) (al j ||| be j) N := (fY_eq h.R (HR_put h.H (nbadS hb).1 (nbadS hb).2 (j := j)) hj).1
theorem IV.cle (h : IV N al be to od ph mn bu fi la fr tt) {j : Nat} (hj : j < N) (hd : dtd fr j = true) : fi j = fr j := ((h.H j hj).1 hd).1
theorem stU_i (R : RI N al be to) {i j : Nat} (hi : i < N) : stU al (al i ||| al j) N i = (al i ||| al j) := by
  unfold stU
  rw [decide_eq_true hi, b_or, R.2.2.1 i hi]
  rfl
end IVS
