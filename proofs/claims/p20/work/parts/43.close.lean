/-! going on and on: what the law's reckoning makes of a table, and that it is the class's relations -/
def up2 (M : Nat → Nat → Bool) (a b : Nat) (v : Bool) : Nat → Nat → Bool := fun i j => if i = a ∧ j = b then v else M i j
def fwB (M : Nat → Nat → Bool) (k a : Nat) : Nat → Nat → Nat → Bool
  | 0 => M
  | b + 1 => up2 (fwB M k a b) a b (fwB M k a b a b || (fwB M k a b a k && fwB M k a b k b))
def fwA (M : Nat → Nat → Bool) (n k : Nat) : Nat → Nat → Nat → Bool
  | 0 => M
  | a + 1 => fwB (fwA M n k a) k a n
def fwK (M : Nat → Nat → Bool) (n : Nat) : Nat → Nat → Nat → Bool
  | 0 => M
  | k + 1 => fwA (fwK M n k) n k n
def fwS (M : Nat → Nat → Bool) (n k a b : Nat) : Nat → Nat → Bool := fun i j => if (i < a ∧ j < n) ∨ (i = a ∧ j < b) then M i j || (M i k && M k j) else M i j
theorem fwS_ik {M : Nat → Nat → Bool} {n k a b i : Nat} : fwS M n k a b i k = M i k := by
  unfold fwS
  split
  · cases M i k <;> simp
  · rfl
theorem fwS_kj {M : Nat → Nat → Bool} {n k a b j : Nat} : fwS M n k a b k j = M k j := by
  unfold fwS
  split
  · cases M k j <;> simp
  · rfl
theorem fwS_ab {M : Nat → Nat → Bool} {n k a b : Nat} : fwS M n k a b a b = M a b := by
  unfold fwS
  rw [if_neg (by omega)]
theorem fwB_eq {M : Nat → Nat → Bool} {n k a : Nat} : ∀ b, fwB (fwS M n k a 0) k a b = fwS M n k a b
  | 0 => rfl
  | b + 1 => by
    show up2 (fwB (fwS M n k a 0) k a b) a b _ = _
    rw [fwB_eq b]
    funext i j
    unfold up2
    by_cases h : i = a ∧ j = b
    · rw [if_pos h, fwS_ab, fwS_ik, fwS_kj, h.1, h.2]
      unfold fwS
      rw [if_pos (by omega)]
    · rw [if_neg h]
      unfold fwS
      by_cases c : (i < a ∧ j < n) ∨ (i = a ∧ j < b)
      · rw [if_pos c, if_pos (by omega)]
      · rw [if_neg c, if_neg (by omega)]
theorem fwA_eq {M : Nat → Nat → Bool} {n k : Nat} : ∀ a, fwA M n k a = fwS M n k a 0
  | 0 => by
    funext i j
    show M i j = _
    unfold fwS
    rw [if_neg (by omega)]
  | a + 1 => by
    show fwB (fwA M n k a) k a n = _
    rw [fwA_eq a, fwB_eq n]
    funext i j
    unfold fwS
    by_cases c : (i < a ∧ j < n) ∨ (i = a ∧ j < n)
    · rw [if_pos c, if_pos (by omega)]
    · rw [if_neg c, if_neg (by omega)]
theorem fwA_n {M : Nat → Nat → Bool} {n k i j : Nat} (hi : i < n) (hj : j < n) : fwA M n k n i j = (M i j || (M i k && M k j)) := by
  rw [fwA_eq]
  unfold fwS
  rw [if_pos (Or.inl ⟨hi, hj⟩)]
theorem fwK_s {M : Nat → Nat → Bool} {n k i j : Nat} (hi : i < n) (hj : j < n) : fwK M n (k + 1) i j = (fwK M n k i j || (fwK M n k i k && fwK M n k k j)) := fwA_n hi hj
theorem fwK_mono {M : Nat → Nat → Bool} {n i j : Nat} (hi : i < n) (hj : j < n) (h : M i j = true) : ∀ k, fwK M n k i j = true
  | 0 => h
  | k + 1 => by rw [fwK_s hi hj, fwK_mono hi hj h k]; rfl
theorem fwK_tr {M : Nat → Nat → Bool} {n : Nat} : ∀ k, k ≤ n → ∀ c, c < k → ∀ i j, i < n → j < n → fwK M n k i c = true → fwK M n k c j = true → fwK M n k i j = true
  | 0, _, c, hc, _, _, _, _, _, _ => absurd hc (Nat.not_lt_zero c)
  | k + 1, hk, c, hc, i, j, hi, hj, h1, h2 => by
    have ih := fwK_tr (M := M) (n := n) k (by omega)
    rw [fwK_s hi (by omega)] at h1
    rw [fwK_s (by omega) hj] at h2
    rw [fwK_s hi hj]
    simp only [Bool.or_eq_true, Bool.and_eq_true] at h1 h2 ⊢
    rcases Nat.lt_succ_iff_lt_or_eq.mp hc with q | q
    · rcases h1 with h1 | ⟨h1, h3⟩ <;> rcases h2 with h2 | ⟨h2, h4⟩
      · exact Or.inl (ih c q i j hi hj h1 h2)
      · exact Or.inr ⟨ih c q i k hi (by omega) h1 h2, h4⟩
      · exact Or.inr ⟨h1, ih c q k j (by omega) hj h3 h2⟩
      · exact Or.inr ⟨h1, h4⟩
    · subst q
      have a1 : fwK M n c i c = true := by rcases h1 with h1 | ⟨h1, -⟩ <;> exact h1
      have a2 : fwK M n c c j = true := by rcases h2 with h2 | ⟨-, h2⟩ <;> exact h2
      exact Or.inr ⟨a1, a2⟩
theorem fwK_least {M : Nat → Nat → Bool} {n : Nat} {S : Nat → Nat → Prop} (hM : ∀ i j, i < n → j < n → M i j = true → S i j) (hS : ∀ i j k, i < n → j < n → k < n → S i j → S j k → S i k) : ∀ k, k ≤ n → ∀ i j, i < n → j < n → fwK M n k i j = true → S i j
  | 0, _, i, j, hi, hj, h => hM i j hi hj h
  | k + 1, hk, i, j, hi, hj, h => by
    have ih := fwK_least hM hS k (by omega)
    rw [fwK_s hi hj] at h
    simp only [Bool.or_eq_true, Bool.and_eq_true] at h
    rcases h with h | ⟨h1, h2⟩
    · exact ih i j hi hj h
    · exact hS i k j hi (by omega) hj (ih i k hi (by omega) h1) (ih k j (by omega) hj h2)
/-- the tables before the closing -/
def idB : Nat → Nat → Nat → Bool
  | 0 => fun _ _ => false
  | k + 1 => up2 (idB k) k k true
def smB (M : Nat → Nat → Bool) (sx sy : Nat → Nat) : Nat → Nat → Nat → Bool
  | 0 => M
  | t + 1 => up2 (up2 (smB M sx sy t) (sx t) (sy t) true) (sy t) (sx t) true
def avB (L S : Nat → Nat → Bool) (x y a : Nat) : Nat → Nat → Nat → Bool
  | 0 => L
  | b + 1 => if S a x && S b y then up2 (avB L S x y a b) a b true else avB L S x y a b
def avA (L S : Nat → Nat → Bool) (x y n : Nat) : Nat → Nat → Nat → Bool
  | 0 => L
  | a + 1 => avB (avA L S x y n a) S x y a n
def avT (L S : Nat → Nat → Bool) (ax ay : Nat → Nat) (n : Nat) : Nat → Nat → Nat → Bool
  | 0 => L
  | t + 1 => avA (avT L S ax ay n t) S (ax t) (ay t) n n
theorem idB_at : ∀ {k i j : Nat}, idB k i j = true ↔ i = j ∧ i < k
  | 0, i, j => by simp [idB]
  | k + 1, i, j => by
    simp only [idB, up2]
    by_cases h : i = k ∧ j = k
    · rw [if_pos h]
      simp; omega
    · rw [if_neg h, idB_at]
      omega
theorem smB_at {M : Nat → Nat → Bool} {sx sy : Nat → Nat} : ∀ {t i j : Nat}, smB M sx sy t i j = true ↔ M i j = true ∨ ∃ u, u < t ∧ ((i = sx u ∧ j = sy u) ∨ (i = sy u ∧ j = sx u))
  | 0, i, j => by simp [smB]
  | t + 1, i, j => by
    simp only [smB, up2]
    by_cases h : i = sy t ∧ j = sx t
    · rw [if_pos h]
      exact ⟨fun _ => Or.inr ⟨t, by omega, Or.inr h⟩, fun _ => rfl⟩
    · rw [if_neg h]
      by_cases h2 : i = sx t ∧ j = sy t
      · rw [if_pos h2]
        exact ⟨fun _ => Or.inr ⟨t, by omega, Or.inl h2⟩, fun _ => rfl⟩
      · rw [if_neg h2, smB_at]
        refine or_congr Iff.rfl ⟨fun ⟨u, a, b⟩ => ⟨u, by omega, b⟩, fun ⟨u, a, b⟩ => ?_⟩
        rcases Nat.lt_succ_iff_lt_or_eq.mp a with q | q
        · exact ⟨u, q, b⟩
        · subst q
          rcases b with b | b
          · exact absurd b h2
          · exact absurd b h
theorem avB_at {L S : Nat → Nat → Bool} {x y a : Nat} : ∀ {b i j : Nat}, avB L S x y a b i j = true ↔ L i j = true ∨ (i = a ∧ j < b ∧ S a x = true ∧ S j y = true)
  | 0, i, j => by simp [avB]
  | b + 1, i, j => by
    simp only [avB]
    by_cases c : S a x = true ∧ S b y = true
    · rw [if_pos (by simp [c.1, c.2])]
      unfold up2
      by_cases h : i = a ∧ j = b
      · rw [if_pos h]
        exact ⟨fun _ => Or.inr ⟨h.1, by omega, c.1, by rw [h.2]; exact c.2⟩, fun _ => rfl⟩
      · rw [if_neg h, avB_at]
        refine or_congr Iff.rfl ⟨fun ⟨p, q, r⟩ => ⟨p, by omega, r⟩, fun ⟨p, q, r⟩ => ⟨p, by omega, r⟩⟩
    · rw [if_neg (by simpa using c), avB_at]
      refine or_congr Iff.rfl ⟨fun ⟨p, q, r⟩ => ⟨p, by omega, r⟩, fun ⟨p, q, r⟩ => ⟨p, ?_, r⟩⟩
      rcases Nat.lt_succ_iff_lt_or_eq.mp q with q | q
      · exact q
      · subst q
        exact absurd r c
theorem avA_at {L S : Nat → Nat → Bool} {x y n : Nat} : ∀ {a i j : Nat}, avA L S x y n a i j = true ↔ L i j = true ∨ (i < a ∧ j < n ∧ S i x = true ∧ S j y = true)
  | 0, i, j => by simp [avA]
  | a + 1, i, j => by
    simp only [avA]
    rw [avB_at, avA_at]
    constructor
    · rintro ((h | ⟨h1, h2⟩) | ⟨h1, h2, h3, h4⟩)
      · exact Or.inl h
      · exact Or.inr ⟨by omega, h2⟩
      · exact Or.inr ⟨by omega, h2, by rw [h1]; exact h3, h4⟩
    · rintro (h | ⟨h1, h2, h3, h4⟩)
      · exact Or.inl (Or.inl h)
      · rcases Nat.lt_succ_iff_lt_or_eq.mp h1 with q | q
        · exact Or.inl (Or.inr ⟨q, h2, h3, h4⟩)
        · exact Or.inr ⟨q, h2, by rw [← q]; exact h3, h4⟩
theorem avT_at {L S : Nat → Nat → Bool} {ax ay : Nat → Nat} {n : Nat} : ∀ {t i j : Nat}, avT L S ax ay n t i j = true ↔ L i j = true ∨ ∃ u, u < t ∧ i < n ∧ j < n ∧ S i (ax u) = true ∧ S j (ay u) = true
  | 0, i, j => by simp [avT]
  | t + 1, i, j => by
    simp only [avT]
    rw [avA_at, avT_at]
    constructor
    · rintro ((h | ⟨u, h1, h2⟩) | h)
      · exact Or.inl h
      · exact Or.inr ⟨u, by omega, h2⟩
      · exact Or.inr ⟨t, by omega, h⟩
    · rintro (h | ⟨u, h1, h2⟩)
      · exact Or.inl (Or.inl h)
      · rcases Nat.lt_succ_iff_lt_or_eq.mp h1 with q | q
        · exact Or.inl (Or.inr ⟨u, q, h2⟩)
        · subst q
          exact Or.inr h2
/-- al is the least that holds what was told the same, be the least that holds what was told later -/
def RS (N : Nat) (al : Nat → Int32) (mS : Nat) (sx sy : Nat → Nat) : Prop := (∀ t, t < mS → sx t < N ∧ sy t < N ∧ bt (al (sx t)) (sy t) = true) ∧ ∀ S : Nat → Nat → Prop, (∀ i, i < N → S i i) → (∀ t, t < mS → S (sx t) (sy t) ∧ S (sy t) (sx t)) → (∀ i j k, i < N → j < N → k < N → S i j → S j k → S i k) → ∀ i j, i < N → bt (al i) j = true → S i j
def RL2 (N : Nat) (al be : Nat → Int32) (mA : Nat) (ax ay : Nat → Nat) : Prop := (∀ t, t < mA → ax t < N ∧ ay t < N ∧ bt (be (ax t)) (ay t) = true) ∧ ∀ S : Nat → Nat → Prop, (∀ t, t < mA → ∀ i j, i < N → j < N → bt (al i) (ax t) = true → bt (al j) (ay t) = true → S i j) → (∀ i j k, i < N → j < N → k < N → S i j → S j k → S i k) → ∀ i j, i < N → bt (be i) j = true → S i j
def rkS (N mS : Nat) (sx sy : Nat → Nat) : Nat → Nat → Bool := fwK (smB (idB N) sx sy mS) N N
def rkL (N mS : Nat) (sx sy : Nat → Nat) (mA : Nat) (ax ay : Nat → Nat) : Nat → Nat → Bool := fwK (avT (fun _ _ => false) (rkS N mS sx sy) ax ay N mA) N N
section RKS
variable {N : Nat} {al be to : Nat → Int32} {mS mA : Nat} {sx sy ax ay : Nat → Nat}
theorem RI.sym (h : RI N al be to) {i j : Nat} (hi : i < N) (q : bt (al i) j = true) : bt (al j) i = true := (h.2.1.1 i j ⟨hi, q⟩).2
theorem RI.ltA (h : RI N al be to) {i j : Nat} (hi : i < N) (q : bt (al i) j = true) : j < N := h.2.2.2.1 i hi j q
theorem RI.ltB (h : RI N al be to) {i j : Nat} (hi : i < N) (q : bt (be i) j = true) : j < N := h.2.2.2.2.1 i hi j q
theorem RI.trA (h : RI N al be to) {i j k : Nat} (hi : i < N) (q : bt (al i) j = true) (q2 : bt (al j) k = true) : bt (al i) k = true := (h.2.1.2.1 i j k ⟨hi, q⟩ ⟨h.ltA hi q, q2⟩).2
theorem RI.trB (h : RI N al be to) {i j k : Nat} (hi : i < N) (q : bt (be i) j = true) (q2 : bt (be j) k = true) : bt (be i) k = true := (h.2.1.2.2.2.1 i j k ⟨hi, q⟩ ⟨h.ltB hi q, q2⟩).2
theorem RI.rfA (h : RI N al be to) {i : Nat} (hi : i < N) : bt (al i) i = true := h.2.2.1 i hi
theorem RI.irr (h : RI N al be to) {i : Nat} (hi : i < N) : ¬ bt (be i) i = true := fun q => h.2.1.2.2.1 i ⟨hi, q⟩
theorem rkS_eq (h : RI N al be to) (hs : RS N al mS sx sy) {i j : Nat} (hi : i < N) (hj : j < N) : rkS N mS sx sy i j = bt (al i) j := by
  have hle : rkS N mS sx sy i j = true → bt (al i) j = true := fwK_least (S := fun i j => bt (al i) j = true) (fun i j hi hj q => by
    rcases smB_at.mp q with q | ⟨u, hu, q | q⟩
    · rw [(idB_at.mp q).1]; exact h.rfA hj
    · rw [q.1, q.2]; exact (hs.1 u hu).2.2
    · rw [q.1, q.2]; exact h.sym (hs.1 u hu).1 (hs.1 u hu).2.2) (fun i j k hi _ _ a b => h.trA hi a b) N (Nat.le_refl _) i j hi hj
  have hge : bt (al i) j = true → rkS N mS sx sy i j = true := fun q => (hs.2 (fun i j => i < N → j < N → rkS N mS sx sy i j = true) (fun i hi a _ => fwK_mono a a (smB_at.mpr (Or.inl (idB_at.mpr ⟨rfl, hi⟩))) N)
    (fun t ht => ⟨fun a b => fwK_mono a b (smB_at.mpr (Or.inr ⟨t, ht, Or.inl ⟨rfl, rfl⟩⟩)) N, fun a b => fwK_mono a b (smB_at.mpr (Or.inr ⟨t, ht, Or.inr ⟨rfl, rfl⟩⟩)) N⟩)
    (fun i j k _ hj _ a b hi hk => fwK_tr N (Nat.le_refl _) j hj i k hi hk (a hi hj) (b hj hk)) i j hi q) hi hj
  cases c : bt (al i) j with
  | true => exact hge c
  | false => cases d : rkS N mS sx sy i j with
    | false => rfl
    | true => rw [hle d] at c; cases c
theorem rkL_eq (h : RI N al be to) (hs : RS N al mS sx sy) (hl : RL2 N al be mA ax ay) {i j : Nat} (hi : i < N) (hj : j < N) : rkL N mS sx sy mA ax ay i j = bt (be i) j := by
  have hle : rkL N mS sx sy mA ax ay i j = true → bt (be i) j = true := fwK_least (S := fun i j => bt (be i) j = true) (fun i j hi hj q => by
    rcases avT_at.mp q with q | ⟨u, hu, -, -, q1, q2⟩
    · cases q
    · obtain ⟨a1, a2, a3⟩ := hl.1 u hu
      rw [rkS_eq h hs hi a1] at q1
      rw [rkS_eq h hs hj a2] at q2
      have b1 : LL N be i (ay u) := h.2.1.2.2.2.2.1 (ax u) i (ay u) ⟨a1, h.sym hi q1⟩ ⟨a1, a3⟩
      exact (h.2.1.2.2.2.2.2 i (ay u) j b1 ⟨a2, h.sym hj q2⟩).2) (fun i j k hi _ _ a b => h.trB hi a b) N (Nat.le_refl _) i j hi hj
  have hge : bt (be i) j = true → rkL N mS sx sy mA ax ay i j = true := fun q => (hl.2 (fun i j => i < N → j < N → rkL N mS sx sy mA ax ay i j = true)
    (fun t ht i j hi hj q1 q2 a b => fwK_mono a b (avT_at.mpr (Or.inr ⟨t, ht, hi, hj, by rw [rkS_eq h hs hi (hl.1 t ht).1]; exact q1, by rw [rkS_eq h hs hj (hl.1 t ht).2.1]; exact q2⟩)) N)
    (fun i j k _ hj _ a b hi hk => fwK_tr N (Nat.le_refl _) j hj i k hi hk (a hi hj) (b hj hk)) i j hi q) hi hj
  cases c : bt (be i) j with
  | true => exact hge c
  | false => cases d : rkL N mS sx sy mA ax ay i j with
    | false => rfl
    | true => rw [hle d] at c; cases c
theorem RS_0 : RS 0 (fun _ => 0) 0 sx sy := ⟨fun t ht => absurd ht (Nat.not_lt_zero t), fun S _ _ _ i j hi _ => absurd hi (Nat.not_lt_zero i)⟩
theorem RL2_0 : RL2 0 (fun _ => 0) (fun _ => 0) 0 ax ay := ⟨fun t ht => absurd ht (Nat.not_lt_zero t), fun S _ _ i j hi _ => absurd hi (Nat.not_lt_zero i)⟩
theorem RS_find (hN : N < 14) (h : RS N al mS sx sy) : RS (N + 1) (upd al N ((1 : Int32) <<< (nI N &&& 31))) mS sx sy := by
  refine ⟨fun t ht => ?_, fun S h1 h2 h3 i j hi q => ?_⟩
  · obtain ⟨a, b, c⟩ := h.1 t ht
    refine ⟨by omega, by omega, ?_⟩
    unfold upd
    rw [if_neg (by omega)]
    exact c
  · by_cases e : i = N
    · subst e
      unfold upd at q
      rw [if_pos rfl, bt_one (by omega)] at q
      rw [of_decide_eq_true q]
      exact h1 i hi
    · unfold upd at q
      rw [if_neg e] at q
      exact h.2 S (fun i hi => h1 i (by omega)) h2 (fun i j k a b c => h3 i j k (by omega) (by omega) (by omega)) i j (by omega) q
theorem RL2_find (hN : N < 14) (R : RI N al be to) (h : RL2 N al be mA ax ay) : RL2 (N + 1) (upd al N ((1 : Int32) <<< (nI N &&& 31))) be mA ax ay := by
  refine ⟨fun t ht => ?_, fun S h1 h2 i j hi q => ?_⟩
  · obtain ⟨a, b, c⟩ := h.1 t ht
    exact ⟨by omega, by omega, c⟩
  · by_cases e : i = N
    · subst e
      rw [(R.2.2.2.2.2.2 i (Nat.le_refl _)).1, b_0] at q
      cases q
    · refine h.2 S (fun t ht i j a b c d => h1 t ht i j (by omega) (by omega) ?_ ?_) (fun i j k a b c => h2 i j k (by omega) (by omega) (by omega)) i j (by omega) q
      · unfold upd
        rw [if_neg (by omega)]
        exact c
      · unfold upd
        rw [if_neg (by omega)]
        exact d
/-- one more told -/
def ap1 (f : Nat → Nat) (m x : Nat) : Nat → Nat := fun t => if t = m then x else f t
theorem ap1_s {f : Nat → Nat} {m x : Nat} : ap1 f m x m = x := if_pos rfl
theorem ap1_n {f : Nat → Nat} {m x t : Nat} (h : t < m) : ap1 f m x t = f t := if_neg (by omega)
theorem RL2_above (R : RI N al be to) (h : RL2 N al be mA ax ay) {i j : Nat} (hi : i < N) (hj : j < N) : RL2 N al (lkU be (al i ||| to i) (al j ||| be j) N) (mA + 1) (ap1 ax mA i) (ap1 ay mA j) := by
  have up : ∀ x, x < N → (bt (al i ||| to i) x = true ↔ bt (al i) x = true ∨ bt (be x) i = true) := fun x hx => by
    rw [b_or, Bool.or_eq_true]
    exact or_congr Iff.rfl ((R.toL hi).trans ⟨fun q => q.2, fun q => ⟨hx, q⟩⟩)
  refine ⟨fun t ht => ?_, fun S h1 h2 x y hx q => ?_⟩
  · rcases Nat.lt_succ_iff_lt_or_eq.mp ht with q | q
    · obtain ⟨a, b, c⟩ := h.1 t q
      rw [ap1_n q, ap1_n q]
      exact ⟨a, b, lkU_bt.mpr (Or.inl c)⟩
    · subst q
      rw [ap1_s, ap1_s]
      exact ⟨hi, hj, lkU_bt.mpr (Or.inr ⟨hi, (up i hi).mpr (Or.inl (R.rfA hi)), by rw [b_or, R.rfA hj]; rfl⟩)⟩
  · have old : ∀ x y, x < N → bt (be x) y = true → S x y := h.2 S (fun t ht x y a b c d => h1 t (by omega) x y a b (by rw [ap1_n ht]; exact c) (by rw [ap1_n ht]; exact d)) h2
    have new : ∀ x y, x < N → y < N → bt (al x) i = true → bt (al y) j = true → S x y := fun x y a b c d => h1 mA (by omega) x y a b (by rw [ap1_s]; exact c) (by rw [ap1_s]; exact d)
    rcases lkU_bt.mp q with q | ⟨-, q1, q2⟩
    · exact old x y hx q
    · rw [b_or, Bool.or_eq_true] at q2
      rcases (up x hx).mp q1 with q1 | q1 <;> rcases q2 with q2 | q2
      · exact new x y hx (R.ltA hj q2) (R.sym hi q1) (R.sym hj q2)
      · exact h2 x j y hx hj (R.ltB hj q2) (new x j hx hj (R.sym hi q1) (R.rfA hj)) (old j y hj q2)
      · exact h2 x i y hx hi (R.ltA hj q2) (old x i hx q1) (new i y hi (R.ltA hj q2) (R.rfA hi) (R.sym hj q2))
      · exact h2 x i y hx hi (R.ltB hj q2) (old x i hx q1) (h2 i j y hi hj (R.ltB hj q2) (new i j hi hj (R.rfA hi) (R.rfA hj)) (old j y hj q2))
theorem RS_same (R : RI N al be to) (h : RS N al mS sx sy) {i j : Nat} (hi : i < N) (hj : j < N) : RS N (stU al (al i ||| al j) N) (mS + 1) (ap1 sx mS i) (ap1 sy mS j) := by
  have jo : ∀ x, bt (al i ||| al j) x = true ↔ bt (al i) x = true ∨ bt (al j) x = true := fun x => by rw [b_or, Bool.or_eq_true]
  refine ⟨fun t ht => ?_, fun S h1 h2 h3 x y hx q => ?_⟩
  · rcases Nat.lt_succ_iff_lt_or_eq.mp ht with q | q
    · obtain ⟨a, b, c⟩ := h.1 t q
      rw [ap1_n q, ap1_n q]
      refine ⟨a, b, stU_bt.mpr ?_⟩
      by_cases e : sx t < N ∧ bt (al i ||| al j) (sx t) = true
      · refine Or.inl ⟨e.1, e.2, ?_⟩
        rcases (jo _).mp e.2 with d | d
        · exact (jo _).mpr (Or.inl (R.trA hi d c))
        · exact (jo _).mpr (Or.inr (R.trA hj d c))
      · exact Or.inr ⟨e, c⟩
    · subst q
      rw [ap1_s, ap1_s]
      exact ⟨hi, hj, stU_bt.mpr (Or.inl ⟨hi, (jo i).mpr (Or.inl (R.rfA hi)), (jo j).mpr (Or.inr (R.rfA hj))⟩)⟩
  · have old : ∀ x y, x < N → bt (al x) y = true → S x y := h.2 S h1 (fun t ht => by have := h2 t (by omega); rw [ap1_n ht, ap1_n ht] at this; exact this) h3
    have new := h2 mS (by omega)
    rw [ap1_s, ap1_s] at new
    rcases stU_bt.mp q with ⟨-, q1, q2⟩ | ⟨-, q⟩
    · rcases (jo x).mp q1 with q1 | q1 <;> rcases (jo y).mp q2 with q2 | q2
      · exact old x y hx (R.trA hx (R.sym hi q1) q2)
      · exact h3 x i y hx hi (R.ltA hj q2) (old x i hx (R.sym hi q1)) (h3 i j y hi hj (R.ltA hj q2) new.1 (old j y hj q2))
      · exact h3 x j y hx hj (R.ltA hi q2) (old x j hx (R.sym hj q1)) (h3 j i y hj hi (R.ltA hi q2) new.2 (old i y hi q2))
      · exact old x y hx (R.trA hx (R.sym hj q1) q2)
    · exact old x y hx q
theorem RL2_same (R : RI N al be to) (h : RL2 N al be mA ax ay) {i j : Nat} (hi : i < N) (hj : j < N) : RL2 N (stU al (al i ||| al j) N) (lkU (lkU be ((al i ||| al j) ||| (to i ||| to j)) (be i ||| be j) N) (to i ||| to j) (al i ||| al j) N) mA ax ay := by
  have jo : ∀ x, bt (al i ||| al j) x = true ↔ bt (al i) x = true ∨ bt (al j) x = true := fun x => by rw [b_or, Bool.or_eq_true]
  have lo : ∀ x, bt (be i ||| be j) x = true ↔ bt (be i) x = true ∨ bt (be j) x = true := fun x => by rw [b_or, Bool.or_eq_true]
  have up : ∀ x, x < N → (bt (to i ||| to j) x = true ↔ bt (be x) i = true ∨ bt (be x) j = true) := fun x hx => by
    rw [b_or, Bool.or_eq_true]
    exact or_congr ((R.toL hi).trans ⟨fun q => q.2, fun q => ⟨hx, q⟩⟩) ((R.toL hj).trans ⟨fun q => q.2, fun q => ⟨hx, q⟩⟩)
  have inc : ∀ x y, x < N → bt (al x) y = true → bt (stU al (al i ||| al j) N x) y = true := fun x y hx q => stU_bt.mpr (by
    by_cases e : x < N ∧ bt (al i ||| al j) x = true
    · refine Or.inl ⟨hx, e.2, ?_⟩
      rcases (jo _).mp e.2 with d | d
      · exact (jo _).mpr (Or.inl (R.trA hi d q))
      · exact (jo _).mpr (Or.inr (R.trA hj d q))
    · exact Or.inr ⟨e, q⟩)
  have joi : ∀ x y, x < N → bt (al i ||| al j) x = true → bt (al i ||| al j) y = true → bt (stU al (al i ||| al j) N x) y = true := fun x y hx a b => stU_bt.mpr (Or.inl ⟨hx, a, b⟩)
  have trn : ∀ x u v, x < N → u < N → bt (stU al (al i ||| al j) N x) u = true → bt (al u) v = true → bt (stU al (al i ||| al j) N x) v = true := fun x u v hx hu q q2 => by
    rcases stU_bt.mp q with ⟨-, a, b⟩ | ⟨a, b⟩
    · refine stU_bt.mpr (Or.inl ⟨hx, a, ?_⟩)
      rcases (jo _).mp b with d | d
      · exact (jo _).mpr (Or.inl (R.trA hi d q2))
      · exact (jo _).mpr (Or.inr (R.trA hj d q2))
    · exact stU_bt.mpr (Or.inr ⟨a, R.trA hx b q2⟩)
  have jii : bt (al i ||| al j) i = true := (jo i).mpr (Or.inl (R.rfA hi))
  have jjj : bt (al i ||| al j) j = true := (jo j).mpr (Or.inr (R.rfA hj))
  refine ⟨fun t ht => ?_, fun S h1 h2 x y hx q => ?_⟩
  · obtain ⟨a, b, c⟩ := h.1 t ht
    exact ⟨a, b, lkU_bt.mpr (Or.inl (lkU_bt.mpr (Or.inl c)))⟩
  · have star : ∀ u v, u < N → bt (be u) v = true → ∀ x y, x < N → y < N → bt (stU al (al i ||| al j) N x) u = true → bt (stU al (al i ||| al j) N y) v = true → S x y :=
      h.2 (fun u v => ∀ x y, x < N → y < N → bt (stU al (al i ||| al j) N x) u = true → bt (stU al (al i ||| al j) N y) v = true → S x y)
        (fun t ht u v hu hv c d x y hx hy p q => h1 t ht x y hx hy (trn x u _ hx hu p c) (trn y v _ hy hv q d))
        (fun u v w hu hv hw a b x z hx hz p q => h2 x v z hx hv hz (a x v hx hv p (inc v v hv (R.rfA hv))) (b v z hv hz (inc v v hv (R.rfA hv)) q))
    have sx1 : ∀ x y, x < N → y < N → bt (al i ||| al j) x = true → (bt (be i) y = true ∨ bt (be j) y = true) → S x y := fun x y hx hy a b => by
      rcases b with b | b
      · exact star i y hi b x y hx hy (joi x i hx a jii) (inc y y hy (R.rfA hy))
      · exact star j y hj b x y hx hy (joi x j hx a jjj) (inc y y hy (R.rfA hy))
    have sx2 : ∀ x y, x < N → y < N → (bt (be x) i = true ∨ bt (be x) j = true) → bt (al i ||| al j) y = true → S x y := fun x y hx hy b a => by
      rcases b with b | b
      · exact star x i hx b x y hx hy (inc x x hx (R.rfA hx)) (joi y i hy a jii)
      · exact star x j hx b x y hx hy (inc x x hx (R.rfA hx)) (joi y j hy a jjj)
    have ltl : ∀ y, bt (be i ||| be j) y = true → y < N := fun y q => by
      rcases (lo y).mp q with q | q
      · exact R.ltB hi q
      · exact R.ltB hj q
    have ltj : ∀ y, bt (al i ||| al j) y = true → y < N := fun y q => by
      rcases (jo y).mp q with q | q
      · exact R.ltA hi q
      · exact R.ltA hj q
    rcases lkU_bt.mp q with q | ⟨-, q1, q2⟩
    · rcases lkU_bt.mp q with q | ⟨-, q1, q2⟩
      · exact star x y hx q x y hx (R.ltB hx q) (inc x x hx (R.rfA hx)) (inc y y (R.ltB hx q) (R.rfA (R.ltB hx q)))
      · rw [b_or, Bool.or_eq_true] at q1
        rcases q1 with q1 | q1
        · exact sx1 x y hx (ltl y q2) q1 ((lo y).mp q2)
        · exact h2 x i y hx hi (ltl y q2) (sx2 x i hx hi ((up x hx).mp q1) jii) (sx1 i y hi (ltl y q2) jii ((lo y).mp q2))
    · exact sx2 x y hx (ltj y q2) ((up x hx).mp q1) q2
end RKS
