/-! what the simulation tells is what the class tells -/
section EQS
variable {N : Nat} {al be to od ph mn : Nat → Int32} {bu : Int32} {fi la fr tt : Nat → Int32}
theorem nle_lt {a b : Int32} : ¬ a ≤ b ↔ b < a := ⟨fa_of_nle, fun h => (fa_of_lt h).2.1⟩
theorem IV.dtd1 (h : IV N al be to od ph mn bu fi la fr tt) {k : Nat} (hk : k < N) (q : ¬ fr k < 0) : dtd fr k = true := by
  cases c : dtd fr k with
  | true => rfl
  | false => exact absurd ((h.neg hk).mpr c) q
theorem sF_step (h : IV N al be to od ph mn bu fi la fr tt) {set : Int32} {p : Nat → Bool} (hp : ∀ k, p k = bt set k) : ∀ n, n ≤ N → sF fr p n = mF fr set n
  | 0, _ => rfl
  | n + 1, hn => by
    have ih := sF_step h hp n (by omega)
    have g := gF_step h.H (set := set) (n := n) (by omega)
    have r0 : 0 ≤ mF fr set n := by rw [← g.1]; exact g.2.1
    simp only [sF, mF]
    rw [ih, hp n]
    cases c : bt set n with
    | false => simp
    | true =>
      cases d : dtd fr n with
      | false =>
        have e : fr n < 0 := (h.neg (by omega)).mpr d
        have e2 : fr n ≤ mF fr set n := by
          rw [fa_lt] at e
          rw [fa_le] at r0 ⊢
          omega
        simp [e2]
      | true =>
        unfold imax
        by_cases q : mF fr set n < fr n
        · simp [q, (fa_of_lt q).2.1]
        · simp [q, fa_of_nlt q]
theorem sF_eq (h : IV N al be to od ph mn bu fi la fr tt) {j : Nat} (hj : j < N) : sF fr (pF al be j) N = fY al be fi j := by
  rw [(fY_eq h.R h.H hj).1]
  exact sF_step h (fun k => (b_or _ _ _).symm) N (Nat.le_refl _)
theorem sT_step (h : IV N al be to od ph mn bu fi la fr tt) {j : Nat} : ∀ n, n ≤ N → sT fr tt (pT al be j) n = mT al be fr tt j n
  | 0, _ => rfl
  | n + 1, hn => by
    have ih := sT_step h (j := j) n (by omega)
    simp only [sT, mT]
    rw [ih]
    cases c : (bt (al j) n || bt (be n) j) with
    | false => simp [c]
    | true =>
      cases d : dtd fr n with
      | false =>
        have e : fr n < 0 := (h.neg (by omega)).mpr d
        simp [e]
      | true =>
        have e : ¬ fr n < 0 := fun q => by
          have := (h.neg (by omega)).mp q
          rw [this] at d
          cases d
        unfold imin
        by_cases q : tt n < mT al be fr tt j n
        · simp [c, e, q, (fa_of_lt q).2.1]
        · simp [c, e, q, fa_of_nlt q]
theorem sT_eq (h : IV N al be to od ph mn bu fi la fr tt) {j : Nat} (hj : j < N) : sT fr tt (pT al be j) N = lY al to la j := by
  rw [(lY_eq h.R h.H hj).1]
  exact sT_step h N (Nat.le_refl _)
theorem sD_eq (h : IV N al be to od ph mn bu fi la fr tt) {j : Nat} (hj : j < N) : sD N al be fr tt j = dbt al be to fi la j := by
  unfold sD dbt
  rw [sF_eq h hj, sT_eq h hj]
  by_cases q : lY al to la j < fY al be fi j
  · rw [decide_eq_true q, decide_eq_false (nle_lt.mpr q)]; rfl
  · rw [decide_eq_false q, decide_eq_true (fa_of_nlt q)]; rfl
theorem ct14a (h : RI N al be to) {i : Nat} (hi : i < N) : ct (bt (al i)) 14 = ct (bt (al i)) N := ct_ext (fun k hk => out_f (h.2.2.2.1 i hi) hk) h.1
theorem ct14b (h : RI N al be to) {i : Nat} (hi : i < N) : ct (bt (be i)) 14 = ct (bt (be i)) N := ct_ext (fun k hk => out_f (h.2.2.2.2.1 i hi) hk) h.1
end EQS
section SBS
variable {D : va_G} {cA : ClassId} {H H1 : Heap} {S0 : Nat} {ad : Nat → Nat} {a B N : Nat} {al be to od ph mn : Nat → Int32} {bu : Int32} {fi la : Nat → Int32} {tb : Int32} {tf tl fr tt : Nat → Int32} {mA : Nat} {ax ay : Nat → Nat} {mS : Nat} {sx sy : Nat → Nat} {ab sm fo ho : Nat} {rfi rhe rab rsm : Nat → Nat} {v5 v6 : Value} {ro : Nat → Nat}
abbrev r2M (x y : Int32) : Nat → Int32 := upd (upd (fun _ => 0) 0 x) 1 y
theorem r2M_at {x y : Int32} {j : Nat} (hj : j < 2) : r2M x y j = if j = 0 then x else y := by
  rcases (show j = 0 ∨ j = 1 by omega) with rfl | rfl <;> rfl
theorem GI.add {o o2 m q x y : Nat} {r f g : Nat → Nat} (h : ∀ i, i < m → AT D (r i) (.inl (cA, 2, .inl (paM f g i))) H) (h2 : AT D o2 (.inl (D.1 11, m + 1, .inr (.inr (.inr (.inr (fun i => some (ap1 r m q i))))))) H) (hq : AT D q (.inl (cA, 2, .inl (r2M (nI x) (nI y)))) H) : GI D cA H o2 (m + 1) (ap1 r m q) 2 (paM (ap1 f m x) (ap1 g m y)) := by
  refine ⟨h2, fun i hi => ?_⟩
  by_cases e : i = m
  · subst e
    rw [show ap1 r i q i = q from if_pos rfl]
    refine at_cong hq (fun j hj => ?_)
    rw [r2M_at hj]
    show _ = if j = 0 then nI (ap1 f i x i) else nI (ap1 g i y i)
    rw [ap1_s, ap1_s]
  · have hl : i < m := by omega
    rw [ap1_n hl]
    refine at_cong (h i hl) (fun j hj => ?_)
    show (if j = 0 then nI (f i) else nI (g i)) = if j = 0 then nI (ap1 f m x i) else nI (ap1 g m y i)
    rw [ap1_n hl, ap1_n hl]
/-- a hearth's row in the place of another one -/
theorem GI.hea {o j q : Nat} {r : Nat → Nat} {x y : Int32} (h : ∀ i, i < 14 → AT D (r i) (.inl (cA, 2, .inl (hrM fr tt i))) H) (h2 : AT D o (.inl (D.1 11, 14, .inr (.inr (.inr (.inr (va_up (fun i => some (r i)) j (some q))))))) H) (hq : AT D q (.inl (cA, 2, .inl (r2M x y))) H) : GI D cA H o 14 (ap1 r j q) 2 (hrM (upd fr j x) (upd tt j y)) := by
  refine ⟨at_congq h2 (fun i _ => ?_), fun i hi => ?_⟩
  · unfold va_up ap1
    by_cases e : i = j
    · rw [if_pos e, if_pos e]
    · rw [if_neg e, if_neg e]
  · by_cases e : i = j
    · subst e
      rw [show ap1 r i q i = q from if_pos rfl]
      refine at_cong hq (fun k hk => ?_)
      rw [r2M_at hk]
      show _ = if k = 0 then upd fr i x i else upd tt i y i
      rw [pk_us, pk_us]
    · rw [show ap1 r j q i = r i from if_neg e]
      refine at_cong (h i hi) (fun k hk => ?_)
      show (if k = 0 then fr i else tt i) = if k = 0 then upd fr j x i else upd tt j y i
      rw [pk_un e, pk_un e]
/-- one kind's finds written -/
theorem GI.sif {o j kd : Nat} {r : Nat → Nat} {x : Int32} (hj : j < 14) (hk : kd < 4) (h : GI D cA H o 14 r 4 (fiM mn)) (hi : ∀ i k, i < 14 → k < 14 → r i = r k → i = k) (ho : ∀ i, i < 14 → r i ≠ o) (h1 : AT D (r j) (.inl (cA, 4, .inl (upd (fiM mn j) kd x))) H1) (hn : ON (r j) H H1) : GI D cA H1 o 14 r 4 (fiM (upd mn (j * 4 + kd) x)) := by
  refine ⟨hn.at h.1 (fun q => ho j hj q.symm), fun i hi9 => ?_⟩
  by_cases e : i = j
  · subst e
    refine at_cong h1 (fun k hk9 => ?_)
    show upd (fun k => mn (i * 4 + k)) kd x k = upd mn (i * 4 + kd) x (i * 4 + k)
    unfold upd
    by_cases e2 : k = kd
    · rw [if_pos e2, if_pos (by omega)]
    · rw [if_neg e2, if_neg (by omega)]
  · refine at_cong (hn.at (h.2 i hi9) (fun q => e (hi _ _ hi9 hj q))) (fun k hk9 => ?_)
    show mn (i * 4 + k) = upd mn (j * 4 + kd) x (i * 4 + k)
    unfold upd
    rw [if_neg (by omega)]
/-- new cells get a part of their own -/
theorem RR.new (hr : RR ro S0 ad a ab sm fo ho rfi rhe rab rsm mA mS) (hC : va_P D vwCl (WX cA ad N al be to od ph mn bu fi la tb tf tl) H) (hO : SO D H a N ab sm fo ho v5 v6) (hB : SB D cA H ab sm fo ho rfi rhe rab rsm mA ax ay mS sx sy mn fr tt) (g : Nat → Nat) : RR (fun q => if H.size ≤ q then g q else ro q) S0 ad a ab sm fo ho rfi rhe rab rsm mA mS := by
  have hz : S0 ≤ a := hr.S (by rw [hr.2.2.1]; decide)
  have ha := AT.lt hO
  have out : ∀ {q ρ : Nat}, q < H.size → ro q = ρ → (fun q => if H.size ≤ q then g q else ro q) q = ρ := fun {q ρ} h1 h2 => by
    show (if H.size ≤ q then g q else ro q) = ρ
    rw [if_neg (by omega)]
    exact h2
  obtain ⟨r0, r1, r2, r3, r4, r5, r6, r7, r8, r9, r10, r11⟩ := hr
  refine ⟨fun q hq => out (by omega) (r0 q hq), fun k hk => out ?_ (r1 k hk), out ha r2, out (AT.lt hB.1.1) r3, out (AT.lt hB.2.1.1) r4, out (AT.lt hB.2.2.1.1) r5, out (AT.lt hB.2.2.2.1) r6, fun i hi => out (AT.lt (hB.2.2.1.2 i hi)) (r7 i hi), fun i hi => out (AT.lt (hB.2.2.2.2 i hi)) (r8 i hi), fun i hi => out (AT.lt (hB.1.2 i hi)) (r9 i hi), fun i hi => out (AT.lt (hB.2.1.2 i hi)) (r10 i hi), r11⟩
  have w : ∀ (i : Nat) (q : Nat × va_E), (WX cA ad N al be to od ph mn bu fi la tb tf tl)[i]? = some q → q.1 < H.size := fun i q h => (hC i q h).lt
  rcases (show k = 0 ∨ k = 1 ∨ k = 2 ∨ k = 3 ∨ k = 4 ∨ k = 5 ∨ k = 6 ∨ k = 7 ∨ k = 8 ∨ k = 9 ∨ k = 10 ∨ k = 11 ∨ k = 12 ∨ k = 13 ∨ k = 14 by omega) with rfl | rfl | rfl | rfl | rfl | rfl | rfl | rfl | rfl | rfl | rfl | rfl | rfl | rfl | rfl
  · exact w 0 _ rfl
  · exact w 1 _ rfl
  · exact w 2 _ rfl
  · exact w 3 _ rfl
  · exact w 4 _ rfl
  · exact w 5 _ rfl
  · exact w 6 _ rfl
  · exact w 7 _ rfl
  · exact w 8 _ rfl
  · exact w 9 _ rfl
  · exact w 10 _ rfl
  · exact w 11 _ rfl
  · exact w 12 _ rfl
  · exact w 13 _ rfl
  · exact w 14 _ rfl
theorem RR.addS (hr : RR ro S0 ad a ab sm fo ho rfi rhe rab rsm mA mS) {q1 q2 : Nat} (h1 : ro q1 = 7) (h2 : ro q2 = 3) : RR ro S0 ad a ab q2 fo ho rfi rhe rab (ap1 rsm mS q1) mA (mS + 1) := by
  obtain ⟨r0, r1, r2, r3, r4, r5, r6, r7, r8, r9, r10, r11⟩ := hr
  refine ⟨r0, r1, r2, r3, h2, r5, r6, r7, r8, r9, fun i hi => ?_, r11⟩
  unfold ap1
  by_cases e : i = mS
  · rw [if_pos e]; exact h1
  · rw [if_neg e]; exact r10 i (by omega)
theorem RR.addA (hr : RR ro S0 ad a ab sm fo ho rfi rhe rab rsm mA mS) {q1 q2 : Nat} (h1 : ro q1 = 7) (h2 : ro q2 = 3) : RR ro S0 ad a q2 sm fo ho rfi rhe (ap1 rab mA q1) rsm (mA + 1) mS := by
  obtain ⟨r0, r1, r2, r3, r4, r5, r6, r7, r8, r9, r10, r11⟩ := hr
  refine ⟨r0, r1, r2, h2, r4, r5, r6, r7, r8, fun i hi => ?_, r10, r11⟩
  unfold ap1
  by_cases e : i = mA
  · rw [if_pos e]; exact h1
  · rw [if_neg e]; exact r9 i (by omega)
theorem RR.hea (hr : RR ro S0 ad a ab sm fo ho rfi rhe rab rsm mA mS) {q1 j : Nat} (h1 : ro q1 = 7) : RR ro S0 ad a ab sm fo ho rfi (ap1 rhe j q1) rab rsm mA mS := by
  obtain ⟨r0, r1, r2, r3, r4, r5, r6, r7, r8, r9, r10, r11⟩ := hr
  refine ⟨r0, r1, r2, r3, r4, r5, r6, r7, fun i hi => ?_, r9, r10, r11⟩
  unfold ap1
  by_cases e : i = j
  · rw [if_pos e]; exact h1
  · rw [if_neg e]; exact r8 i hi
/-- squares have a part of their own -/
def GR (ro : Nat → Nat) (sa la9 N : Nat) (rsa rla : Nat → Nat) : Prop := ro sa = 9 ∧ ro la9 = 9 ∧ (∀ i, i < N → ro (rsa i) = 9) ∧ ∀ i, i < N → ro (rla i) = 9
theorem GZ.rr {ρ o : Nat} {r : Nat → Nat} {M : Nat → Nat → Bool} (h : GZ D H o N r M) (hk : KP (fun q => ro q = ρ) H H1) (hρ : ρ ≠ 9) (h1 : ro o = 9) (h2 : ∀ i, i < N → ro (r i) = 9) : GZ D H1 o N r M := h.kp hk (fun z => hρ (z.symm.trans h1)) (fun i hi z => hρ (z.symm.trans (h2 i hi)))
end SBS
