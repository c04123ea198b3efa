/-! the law's state: the class, the simulation, how they hang together -/
abbrev WX (cA : ClassId) (ad : Nat → Nat) (N : Nat) (al be to od ph mn : Nat → Int32) (bu : Int32) (fi la : Nat → Int32) (tb : Int32) (tf tl : Nat → Int32) : va_W := wXo cA (ad 0) (ad 1) (ad 7) (ad 9) (ad 12) (ad 2) (ad 3) (ad 4) (ad 5) (ad 6) (ad 8) (ad 10) (ad 11) (ad 13) (ad 14) N al be to od ph mn bu fi la tb tf tl
def SB (D : va_G) (cA : ClassId) (H : Heap) (ab sm fo ho : Nat) (rfi rhe rab rsm : Nat → Nat) (mA : Nat) (ax ay : Nat → Nat) (mS : Nat) (sx sy : Nat → Nat) (mn fr tt : Nat → Int32) : Prop := GI D cA H ab mA rab 2 (paM ax ay) ∧ GI D cA H sm mS rsm 2 (paM sx sy) ∧ GI D cA H fo 14 rfi 4 (fiM mn) ∧ GI D cA H ho 14 rhe 2 (hrM fr tt)
abbrev SO (D : va_G) (H : Heap) (a N ab sm fo ho : Nat) (v5 v6 : Value) : Prop := AT D a (.inr (4, [.int (nI N), .ref ab, .ref sm, .ref fo, .ref ho, v5, v6])) H
/-- which cell is what -/
def RR (ro : Nat → Nat) (S0 : Nat) (ad : Nat → Nat) (a ab sm fo ho : Nat) (rfi rhe rab rsm : Nat → Nat) (mA mS : Nat) : Prop := (∀ q, q < S0 → ro q = 0) ∧ (∀ k, k < 15 → ro (ad k) = 1) ∧ ro a = 2 ∧ ro ab = 3 ∧ ro sm = 3 ∧ ro fo = 5 ∧ ro ho = 6 ∧ (∀ i, i < 14 → ro (rfi i) = 8) ∧ (∀ i, i < 14 → ro (rhe i) = 7) ∧ (∀ i, i < mA → ro (rab i) = 7) ∧ (∀ i, i < mS → ro (rsm i) = 7) ∧ ∀ i j, i < 14 → j < 14 → rfi i = rfi j → i = j
def PU (N : Nat) (al be to od ph mn : Nat → Int32) (bu : Int32) (fi la fr tt : Nat → Int32) (mA : Nat) (ax ay : Nat → Nat) (mS : Nat) (sx sy : Nat → Nat) (B : Nat) : Prop := IV N al be to od ph mn bu fi la fr tt ∧ N ≤ 12 ∧ RS N al mS sx sy ∧ RL2 N al be mA ax ay ∧ ((∀ k, N ≤ k → fr k = -1) ∧ ∀ k, dtd fr k = true → fr k ≤ tt k) ∧ mA + mS ≤ B
def LV (D : va_G) (cA : ClassId) (S0 : Nat) (ad : Nat → Nat) (a B N : Nat) (H : Heap) : Prop := ∃ (al be to od ph mn : Nat → Int32) (bu : Int32) (fi la : Nat → Int32) (tb : Int32) (tf tl fr tt : Nat → Int32) (mA : Nat) (ax ay : Nat → Nat) (mS : Nat) (sx sy : Nat → Nat) (ab sm fo ho : Nat) (rfi rhe rab rsm : Nat → Nat) (v5 v6 : Value) (ro : Nat → Nat),
  PU N al be to od ph mn bu fi la fr tt mA ax ay mS sx sy B ∧ va_P D vwCl (WX cA ad N al be to od ph mn bu fi la tb tf tl) H ∧ va_D (fun _ => True) (WX cA ad N al be to od ph mn bu fi la tb tf tl) ∧ SO D H a N ab sm fo ho v5 v6 ∧ SB D cA H ab sm fo ho rfi rhe rab rsm mA ax ay mS sx sy mn fr tt ∧ RR ro S0 ad a ab sm fo ho rfi rhe rab rsm mA mS
def LX (D : va_G) (cA : ClassId) (S0 : Nat) (ad : Nat → Nat) (a B : Nat) (H : Heap) : Prop := ∃ N, 0 < N ∧ LV D cA S0 ad a B N H
section LVS2
variable {D : va_G} {cA : ClassId} {H H1 : Heap} {S0 : Nat} {ad : Nat → Nat} {a B N : Nat} {al be to od ph mn : Nat → Int32} {bu : Int32} {fi la : Nat → Int32} {tb : Int32} {tf tl fr tt : Nat → Int32} {mA : Nat} {ax ay : Nat → Nat} {mS : Nat} {sx sy : Nat → Nat} {ab sm fo ho : Nat} {rfi rhe rab rsm : Nat → Nat} {v5 v6 : Value} {ro : Nat → Nat}
theorem WX_ad {k : Nat} {q : Nat × va_E} (h : (WX cA ad N al be to od ph mn bu fi la tb tf tl)[k]? = some q) : ∃ i, i < 15 ∧ q.1 = ad i := by
  have hk : k < 15 := (List.getElem?_eq_some_iff.mp h).1
  rcases (show k = 0 ∨ k = 1 ∨ k = 2 ∨ k = 3 ∨ k = 4 ∨ k = 5 ∨ k = 6 ∨ k = 7 ∨ k = 8 ∨ k = 9 ∨ k = 10 ∨ k = 11 ∨ k = 12 ∨ k = 13 ∨ k = 14 by omega) with rfl | rfl | rfl | rfl | rfl | rfl | rfl | rfl | rfl | rfl | rfl | rfl | rfl | rfl | rfl <;> (cases h; exact ⟨_, by decide, rfl⟩)
theorem WX_A {q z : Nat} (h : va_A (WX cA ad N al be to od ph mn bu fi la tb tf tl) z q) : (∃ i, i < 15 ∧ q = ad i) ∨ z ≤ q := by
  rcases h with ⟨k, e, h⟩ | h
  · exact Or.inl (WX_ad h)
  · exact Or.inr h
theorem RR.S (h : RR ro S0 ad a ab sm fo ho rfi rhe rab rsm mA mS) {q : Nat} (hq : ro q ≠ 0) : S0 ≤ q := Nat.le_of_not_lt (fun z => hq (h.1 q z))
theorem RR.cls (h : RR ro S0 ad a ab sm fo ho rfi rhe rab rsm mA mS) (hk : KP (va_A (WX cA ad N al be to od ph mn bu fi la tb tf tl) H.size) H H1) : KP (fun q => ro q = 1) H H1 := hk.weak (fun q h1 h2 => by
  rcases WX_A h2 with ⟨i, hi, rfl⟩ | z
  · exact h.2.1 i hi
  · omega)
theorem RR.clsA (h : RR ro S0 ad a ab sm fo ho rfi rhe rab rsm mA mS) (hz : S0 ≤ H.size) (q : Nat) (h2 : va_A (WX cA ad N al be to od ph mn bu fi la tb tf tl) H.size q) : S0 ≤ q := by
  rcases WX_A h2 with ⟨i, hi, rfl⟩ | z
  · exact h.S (by rw [h.2.1 i hi]; decide)
  · omega
theorem cls_kp {ρ : Nat} (h : RR ro S0 ad a ab sm fo ho rfi rhe rab rsm mA mS) (hk : KP (fun q => ro q = ρ) H H1) (hρ : ρ ≠ 1) (hC : va_P D vwCl (WX cA ad N al be to od ph mn bu fi la tb tf tl) H) : va_P D vwCl (WX cA ad N al be to od ph mn bu fi la tb tf tl) H1 := hk.P hC (fun i q hq z => by
  obtain ⟨j, hj, e⟩ := WX_ad hq
  rw [e, h.2.1 j hj] at z
  exact hρ z.symm)
theorem SB.kp {ρ : Nat} (hr : RR ro S0 ad a ab sm fo ho rfi rhe rab rsm mA mS) (hk : KP (fun q => ro q = ρ) H H1) (hρ : ρ < 3) (h : SB D cA H ab sm fo ho rfi rhe rab rsm mA ax ay mS sx sy mn fr tt) : SB D cA H1 ab sm fo ho rfi rhe rab rsm mA ax ay mS sx sy mn fr tt := by
  obtain ⟨-, -, -, r1, r2, r3, r4, r5, r6, r7, r8, -⟩ := hr
  refine ⟨h.1.kp hk (fun z => ?_) (fun i hi z => ?_), h.2.1.kp hk (fun z => ?_) (fun i hi z => ?_), h.2.2.1.kp hk (fun z => ?_) (fun i hi z => ?_), h.2.2.2.kp hk (fun z => ?_) (fun i hi z => ?_)⟩
  · omega
  · have := r7 i hi; omega
  · omega
  · have := r8 i hi; omega
  · omega
  · have := r5 i hi; omega
  · omega
  · have := r6 i hi; omega
theorem SB.ex (h : SB D cA H ab sm fo ho rfi rhe rab rsm mA ax ay mS sx sy mn fr tt) (hE : EX H H1) : SB D cA H1 ab sm fo ho rfi rhe rab rsm mA ax ay mS sx sy mn fr tt := ⟨h.1.ex hE, h.2.1.ex hE, h.2.2.1.ex hE, h.2.2.2.ex hE⟩
theorem RR.a1 (hr : RR ro S0 ad a ab sm fo ho rfi rhe rab rsm mA mS) {K : Heap → Heap → Prop} (hk : KP (fun q => q = a ∨ H.size ≤ q) H H1) : KP (fun q => ro q = 2) H H1 := hk.weak (fun q h1 h2 => by
  rcases h2 with rfl | z
  · exact hr.2.2.1
  · omega)
theorem RR.on {x ρ : Nat} (hx : ro x = ρ) (hn : ON x H H1) : KP (fun q => ro q = ρ) H H1 := hn.kp.weak (fun q _ h2 => by rw [h2]; exact hx)
theorem SB.sr {sa la9 : Nat} {rsa rla : Nat → Nat} (h : SB D cA H ab sm fo ho rfi rhe rab rsm mA ax ay mS sx sy mn fr tt) (ha : SO D H a N ab sm fo ho (.ref sa) (.ref la9)) (hs : GZ D H sa N rsa (fun i j => bt (al i) j)) (hl : GZ D H la9 N rla (fun i j => bt (be i) j)) : SR D cA H a N ab sm fo ho sa la9 rsa rla rhe rfi al be fr tt mn := ⟨ha, hs, hl, h.2.2.2, h.2.2.1⟩
theorem LV.mk (h1 : PU N al be to od ph mn bu fi la fr tt mA ax ay mS sx sy B) (h2 : va_P D vwCl (WX cA ad N al be to od ph mn bu fi la tb tf tl) H) (h3 : va_D (fun _ => True) (WX cA ad N al be to od ph mn bu fi la tb tf tl)) (h4 : SO D H a N ab sm fo ho v5 v6) (h5 : SB D cA H ab sm fo ho rfi rhe rab rsm mA ax ay mS sx sy mn fr tt) (h6 : RR ro S0 ad a ab sm fo ho rfi rhe rab rsm mA mS) : LV D cA S0 ad a B N H := ⟨al, be, to, od, ph, mn, bu, fi, la, tb, tf, tl, fr, tt, mA, ax, ay, mS, sx, sy, ab, sm, fo, ho, rfi, rhe, rab, rsm, v5, v6, ro, h1, h2, h3, h4, h5, h6⟩
theorem PU.up {B2 : Nat} (h : PU N al be to od ph mn bu fi la fr tt mA ax ay mS sx sy B) (hB : B ≤ B2) : PU N al be to od ph mn bu fi la fr tt mA ax ay mS sx sy B2 := ⟨h.1, h.2.1, h.2.2.1, h.2.2.2.1, h.2.2.2.2.1, Nat.le_trans h.2.2.2.2.2 hB⟩
theorem PU.find (h : PU N al be to od ph mn bu fi la fr tt mA ax ay mS sx sy B) (hN : N < 12) : PU (N + 1) (upd al N ((1 : Int32) <<< (nI N &&& 31))) be to (arO (N + 1) be od (N + 1)) (arP (N + 1) be ph (N + 1)) mn bu fi la fr tt mA ax ay mS sx sy B := by
  obtain ⟨h1, h2, h3, h4, h5, h6⟩ := h
  have e : upd fr N (-1) = fr := by
    have := h5.1 N (Nat.le_refl _)
    funext x
    unfold upd
    by_cases q : x = N
    · rw [if_pos q, q, this]
    · rw [if_neg q]
  have hv := IV_find h1 (by omega)
  rw [e] at hv
  exact ⟨hv, by omega, RS_find (by omega) h3, RL2_find (by omega) h1.R h4, ⟨fun k hk => h5.1 k (by omega), h5.2⟩, h6⟩
theorem PU.above (h : PU N al be to od ph mn bu fi la fr tt mA ax ay mS sx sy B) {i j : Nat} (hi : i < N) (hj : j < N) (hr : (bt (al i) j || bt (be j) i) = false) : PU N al (lkU be (al i ||| to i) (al j ||| be j) N) (lkU to (al j ||| be j) (al i ||| to i) N) (arO N (lkU be (al i ||| to i) (al j ||| be j) N) od N) (arP N (lkU be (al i ||| to i) (al j ||| be j) N) ph N) mn bu fi la fr tt (mA + 1) (ap1 ax mA i) (ap1 ay mA j) mS sx sy (B + 1) := by
  obtain ⟨h1, h2, h3, h4, h5, h6⟩ := h
  exact ⟨IV_rel h1 (RI_above h1.R hi hj hr), h2, h3, RL2_above h1.R h4 hi hj, h5, by omega⟩
theorem PU.same (h : PU N al be to od ph mn bu fi la fr tt mA ax ay mS sx sy B) {i j : Nat} (hi : i < N) (hj : j < N) (hr : (bt (be i) j || bt (be j) i) = false) : PU N (stU al (al i ||| al j) N) (lkU (lkU be ((al i ||| al j) ||| (to i ||| to j)) (be i ||| be j) N) (to i ||| to j) (al i ||| al j) N) (lkU (lkU to (be i ||| be j) ((al i ||| al j) ||| (to i ||| to j)) N) (al i ||| al j) (to i ||| to j) N) (arO N (lkU (lkU be ((al i ||| al j) ||| (to i ||| to j)) (be i ||| be j) N) (to i ||| to j) (al i ||| al j) N) od N) (arP N (lkU (lkU be ((al i ||| al j) ||| (to i ||| to j)) (be i ||| be j) N) (to i ||| to j) (al i ||| al j) N) ph N) mn bu fi la fr tt mA ax ay (mS + 1) (ap1 sx mS i) (ap1 sy mS j) (B + 1) := by
  obtain ⟨h1, h2, h3, h4, h5, h6⟩ := h
  exact ⟨IV_rel h1 (RI_same h1.R hi hj hr), h2, RS_same h1.R h3 hi hj, RL2_same h1.R h4 hi hj, h5, by omega⟩
theorem PU.sift (h : PU N al be to od ph mn bu fi la fr tt mA ax ay mS sx sy B) {i kd z : Nat} (hi : i < N) (hk : kd < 4) (hz : z ≤ 99) : PU N al be to od ph (upd mn (i * 4 + kd) (nI z)) bu fi la fr tt mA ax ay mS sx sy B := by
  obtain ⟨h1, h2, h3, h4, h5, h6⟩ := h
  exact ⟨IV_sift h1 hi hk ⟨z, by omega, rfl⟩, h2, h3, h4, h5, h6⟩
theorem PU.hearth (h : PU N al be to od ph mn bu fi la fr tt mA ax ay mS sx sy B) {j f t : Nat} (hj : j < N) (hf : f ≤ t) (ht : t ≤ 9999) : PU N al be to od ph mn (bu ||| ((1 : Int32) <<< (nI j &&& 31))) (upd fi j (nI f)) (upd la j (nI t)) (upd fr j (nI f)) (upd tt j (nI t)) mA ax ay mS sx sy B := by
  obtain ⟨h1, h2, h3, h4, h5, h6⟩ := h
  refine ⟨IV_hearth h1 hj (fun q => ?_), h2, h3, h4, ⟨fun k hk => ?_, fun k q => ?_⟩, h6⟩
  · rcases q with q | q | q
    · exact nI_pos (by omega) q
    · exact nI_nlt (a := 9999) (b := t) (by omega) (by omega) q
    · exact q (nI_le (by omega) (by omega))
  · unfold upd
    rw [if_neg (by omega)]
    exact h5.1 k hk
  · unfold upd
    by_cases e : k = j
    · rw [if_pos e, if_pos e]; exact nI_le hf (by omega)
    · rw [dtd_upd, if_neg e] at q
      rw [if_neg e, if_neg e]; exact h5.2 k q
theorem IV.tx (h : IV N al be to od ph mn bu fi la fr tt) {tt2 : Nat → Int32} (e : ∀ k, k < N → dtd fr k = true → tt2 k = tt k) : IV N al be to od ph mn bu fi la fr tt2 := by
  obtain ⟨h1, h2, h3, h4, h5, h6, h7⟩ := h
  refine ⟨h1, h2, h3, h4, fun k hk => ⟨fun q => ?_, (h5 k hk).2⟩, h6, h7⟩
  rw [e k hk q]
  exact (h5 k hk).1 q
theorem PU.clear (h : PU N al be to od ph mn bu fi la fr tt mA ax ay mS sx sy B) {j : Nat} (hj : j < N) : PU N al be to od ph mn (bu &&& (((1 : Int32) <<< (nI j &&& 31)) ^^^ (-1))) (upd fi j 0) (upd la j 9999) (upd fr j (-1)) (upd tt j (-1)) mA ax ay mS sx sy B := by
  obtain ⟨h1, h2, h3, h4, h5, h6⟩ := h
  refine ⟨IV.tx (IV_clear h1 hj) (fun k hk q => ?_), h2, h3, h4, ⟨fun k hk => ?_, fun k q => ?_⟩, h6⟩
  · unfold upd
    by_cases e : k = j
    · rw [dtd_upd, if_pos e] at q
      exact absurd q (by decide)
    · rw [if_neg e]
  · unfold upd
    rw [if_neg (by omega)]
    exact h5.1 k hk
  · rw [dtd_upd] at q
    unfold upd
    by_cases e : k = j
    · rw [if_pos e] at q
      exact absurd q (by decide)
    · rw [if_neg e] at q
      rw [if_neg e, if_neg e]; exact h5.2 k q
/-- whoever has no hearth has none in the law's own book -/
theorem IV.neg (h : IV N al be to od ph mn bu fi la fr tt) {k : Nat} (hk : k < N) : fr k < 0 ↔ dtd fr k = false := by
  constructor
  · intro q
    cases c : dtd fr k with
    | false => rfl
    | true => exact absurd q (by have := ((h.H k hk).1 c).2.2.1.1; rw [fa_lt]; rw [fa_le] at this; omega)
  · intro q
    have e : fr k = -1 := by
      unfold dtd at q
      simpa using q
    rw [e]
    decide
end LVS2
