/-! ===== Int32 by its bits: bt x i ===== -/
def bt (x : Int32) (i : Nat) : Bool := x.toBitVec.getLsbD i
theorem b_ext {x y : Int32} (h : ∀ i, i < 32 → bt x i = bt y i) : x = y := Int32.toBitVec_inj.mp (BitVec.eq_of_getLsbD_eq (fun i hi => h i hi))
theorem b_or (x y : Int32) (i : Nat) : bt (x ||| y) i = (bt x i || bt y i) := by unfold bt; rw [Int32.toBitVec_or, BitVec.getLsbD_or]
theorem b_and (x y : Int32) (i : Nat) : bt (x &&& y) i = (bt x i && bt y i) := by unfold bt; rw [Int32.toBitVec_and, BitVec.getLsbD_and]
theorem b_xor (x y : Int32) (i : Nat) : bt (x ^^^ y) i = (bt x i ^^ bt y i) := by unfold bt; rw [Int32.toBitVec_xor, BitVec.getLsbD_xor]
theorem b_big {x : Int32} {i : Nat} (h : 32 ≤ i) : bt x i = false := BitVec.getLsbD_of_ge _ _ h
theorem b_255 (i : Nat) : bt 255 i = decide (i < 8) := by
  rcases Nat.lt_or_ge i 32 with h | h
  · exact (by decide +kernel : ∀ i, i < 32 → bt 255 i = decide (i < 8)) i h
  · rw [b_big h, decide_eq_false (by omega)]
theorem b_65535 (i : Nat) : bt 65535 i = decide (i < 16) := by
  rcases Nat.lt_or_ge i 32 with h | h
  · exact (by decide +kernel : ∀ i, i < 32 → bt 65535 i = decide (i < 16)) i h
  · rw [b_big h, decide_eq_false (by omega)]
theorem b_m1 : ∀ i, i < 32 → bt (-1) i = true := by decide +kernel
theorem b_0 (i : Nat) : bt 0 i = false := BitVec.getLsbD_zero
theorem s_l : ∀ n, n < 32 → ((nI n &&& 31).toBitVec.smod 32).toNat = n := by decide +kernel
theorem s_u : ∀ n, n < 32 → (((nI n).toUInt32 &&& Int32.toUInt32 31).toBitVec % 32).toNat = n := by decide +kernel
theorem b_shl (n : Nat) (hn : n < 32) (x : Int32) {i : Nat} (hi : i < 32) : bt (x <<< (nI n &&& 31)) i = (decide (n ≤ i) && bt x (i - n)) := by
  unfold bt
  rw [Int32.toBitVec_shiftLeft]
  show (x.toBitVec <<< ((nI n &&& 31).toBitVec.smod 32).toNat).getLsbD i = _
  rw [s_l n hn, BitVec.getLsbD_shiftLeft]
  rcases Nat.lt_or_ge i n with h | h
  · simp [h, Nat.not_le.mpr h]
  · simp [hi, h, Nat.not_lt.mpr h]
theorem b_ushr (n : Nat) (hn : n < 32) (x : Int32) (i : Nat) : bt ((x.toUInt32 >>> ((nI n).toUInt32 &&& Int32.toUInt32 31)).toInt32) i = bt x (n + i) := by
  show (x.toUInt32 >>> ((nI n).toUInt32 &&& Int32.toUInt32 31)).toBitVec.getLsbD i = x.toUInt32.toBitVec.getLsbD (n + i)
  rw [UInt32.toBitVec_shiftRight]
  show (x.toUInt32.toBitVec >>> (((nI n).toUInt32 &&& Int32.toUInt32 31).toBitVec % 32).toNat).getLsbD i = _
  rw [s_u n hn, BitVec.getLsbD_ushiftRight]
theorem b_sshr (n : Nat) (hn : n < 32) (x : Int32) {i : Nat} (hi : i < 32) : bt (x >>> (nI n &&& 31)) i = if n + i < 32 then bt x (n + i) else bt x 31 := by
  unfold bt
  rw [Int32.toBitVec_shiftRight]
  show (x.toBitVec.sshiftRight ((nI n &&& 31).toBitVec.smod 32).toNat).getLsbD i = _
  rw [s_l n hn, BitVec.getLsbD_sshiftRight, BitVec.msb_eq_getLsbD_last]
  simp [hi]
theorem b_shl8 (x : Int32) {i : Nat} (hi : i < 32) : bt (x <<< ((8 : Int32) &&& 31)) i = (decide (8 ≤ i) && bt x (i - 8)) := b_shl 8 (by omega) x hi
theorem b_shl16 (x : Int32) {i : Nat} (hi : i < 32) : bt (x <<< ((16 : Int32) &&& 31)) i = (decide (16 ≤ i) && bt x (i - 16)) := b_shl 16 (by omega) x hi
theorem b_shl24 (x : Int32) {i : Nat} (hi : i < 32) : bt (x <<< ((24 : Int32) &&& 31)) i = (decide (24 ≤ i) && bt x (i - 24)) := b_shl 24 (by omega) x hi
theorem b_sshr8 (x : Int32) {i : Nat} (hi : i < 32) : bt (x >>> ((8 : Int32) &&& 31)) i = if 8 + i < 32 then bt x (8 + i) else bt x 31 := b_sshr 8 (by omega) x hi
/-! sets of layers, folds over layers -/
theorem hasZ {x : Int32} {j : Nat} (hj : j < 32) : ((x >>> (nI j &&& 31)) &&& 1) = 0 ↔ bt x j = false := by
  constructor
  · intro h
    have h1 : bt ((x >>> (nI j &&& 31)) &&& 1) 0 = false := by rw [h]; exact b_0 0
    rw [b_and, b_sshr j hj x (by omega)] at h1
    have h2 : bt 1 0 = true := by decide
    rw [h2] at h1
    simpa [hj] using h1
  · intro h
    refine b_ext (fun i hi => ?_)
    rw [b_and, b_0]
    by_cases hi0 : i = 0
    · subst hi0
      rw [b_sshr j hj x (by omega)]
      simp [hj, h]
    · have h2 : ∀ i, i < 32 → i ≠ 0 → bt 1 i = false := by decide
      rw [h2 i hi hi0]
      simp
theorem hasO {x : Int32} {j : Nat} (hj : j < 32) : ((x >>> (nI j &&& 31)) &&& 1) = bI (bt x j) := by
  cases h : bt x j with
  | false => rw [(hasZ hj).mpr h]; rfl
  | true =>
    refine b_ext (fun i hi => ?_)
    rw [b_and]
    by_cases hi0 : i = 0
    · subst hi0
      rw [b_sshr j hj x (by omega)]
      simp [hj, h]
      decide
    · have h2 : ∀ i, i < 32 → i ≠ 0 → bt 1 i = false := by decide
      rw [h2 i hi hi0]
      simp only [Bool.and_false]
      exact (h2 i hi hi0).symm
def imax (x y : Int32) : Int32 := if x < y then y else x
def imin (x y : Int32) : Int32 := if y < x then y else x
def ct (p : Nat → Bool) : Nat → Nat
  | 0 => 0
  | k + 1 => ct p k + (if p k then 1 else 0)
def sI (f : Nat → Int32) : Nat → Int32
  | 0 => 0
  | k + 1 => sI f k + f k
def small (x : Int32) : Prop := ∀ i, 14 ≤ i → bt x i = false
def gF (fi : Nat → Int32) (set : Int32) : Nat → Int32
  | 0 => 0
  | k + 1 => if bt set k then imax (gF fi set k) (fi k) else gF fi set k
def lL (la : Nat → Int32) (set : Int32) : Nat → Int32
  | 0 => 9999
  | k + 1 => if bt set k then imin (lL la set k) (la k) else lL la set k
def sS (mn : Nat → Int32) (set : Int32) (kd : Nat) : Nat → Int32
  | 0 => 0
  | k + 1 => if bt set k then sS mn set kd k + mn (k * 4 + kd) else sS mn set kd k
/-- the first below m of which p holds, or m -/
def fnd (p : Nat → Bool) : Nat → Nat
  | 0 => 0
  | n + 1 => if fnd p n < n then fnd p n else if p n then n else n + 1
theorem fnd_le (p : Nat → Bool) : ∀ n, fnd p n ≤ n
  | 0 => Nat.le_refl 0
  | n + 1 => by
    have ih := fnd_le p n
    unfold fnd
    split
    · omega
    · split <;> omega
theorem fnd_no {p : Nat → Bool} : ∀ {n k : Nat}, k ≤ n → (∀ j, j < k → p j = false) → k ≤ fnd p n
  | 0, k, hk, _ => by have := Nat.le_zero.mp hk; subst this; exact Nat.zero_le _
  | n + 1, k, hk, h => by
    unfold fnd
    by_cases hkn : k ≤ n
    · have ih := fnd_no hkn h
      split
      · exact ih
      · split <;> omega
    · have e : k = n + 1 := by omega
      subst e
      have ih := fnd_no (Nat.le_refl n) (fun j hj => h j (by omega))
      rw [if_neg (by omega), if_neg (by rw [h n (by omega)]; decide)]
      exact Nat.le_refl _
theorem fnd_yes {p : Nat → Bool} : ∀ {n k : Nat}, k < n → p k = true → fnd p n ≤ k
  | 0, k, hk, _ => absurd hk (Nat.not_lt_zero k)
  | n + 1, k, hk, h => by
    unfold fnd
    by_cases hkn : k < n
    · have ih := fnd_yes hkn h
      rw [if_pos (by omega)]
      exact ih
    · have e : k = n := by omega
      subst e
      split
      · omega
      · first | exact Nat.le_refl _ | (rw [if_pos h]; exact Nat.le_refl _)
theorem fnd_at {p : Nat → Bool} {n k : Nat} (hk : k ≤ n) (h : ∀ j, j < k → p j = false) (h2 : k < n → p k = true) : fnd p n = k := by
  have a := fnd_no hk h
  rcases Nat.lt_or_ge k n with q | q
  · have b := fnd_yes q (h2 q)
    omega
  · have := fnd_le p n
    omega
/-- what is left, and of which nothing that is left lies below -/
def fre (be : Nat → Int32) (left : Int32) (j : Nat) : Bool := bt left j && decide (be j &&& left = 0)
def pO (ph : Nat → Int32) (lower : Int32) : Nat → Int32
  | 0 => 0
  | k + 1 => if bt lower k then imax (pO ph lower k) (ph k + 1) else pO ph lower k
def phs (ph : Nat → Int32) : Nat → Int32
  | 0 => 0
  | k + 1 => imax (phs ph k) (ph k + 1)
def prs (be : Nat → Int32) : Nat → Nat
  | 0 => 0
  | k + 1 => prs be k + ct (bt (be k)) 14
def prM (be : Nat → Int32) (upper lower : Int32) : Nat → Nat
  | 0 => 0
  | k + 1 => if bt upper k then prM be upper lower k + ct (bt (lower &&& (be k ^^^ (-1)))) 14 else prM be upper lower k
def srt (al : Nat → Int32) : Nat → Nat
  | 0 => 0
  | k + 1 => if al k &&& (((1 : Int32) <<< (nI k &&& 31)) - 1) = 0 then srt al k + 1 else srt al k
/-- below k, those of the set have more added -/
def lkU (f : Nat → Int32) (set add : Int32) (k : Nat) : Nat → Int32 := fun j => if decide (j < k) && bt set j then f j ||| add else f j
def stU (f : Nat → Int32) (set : Int32) (k : Nat) : Nat → Int32 := fun j => if decide (j < k) && bt set j then set else f j
theorem lkU_0 {f : Nat → Int32} {set add : Int32} : lkU f set add 0 = f := by funext j; simp [lkU]
theorem stU_0 {f : Nat → Int32} {set : Int32} : stU f set 0 = f := by funext j; simp [stU]
theorem lkU_f {f : Nat → Int32} {set add : Int32} {k : Nat} (h : bt set k = false) : lkU f set add k = lkU f set add (k + 1) := by
  funext j
  unfold lkU
  by_cases hj : j = k
  · subst hj; simp [h]
  · have : decide (j < k + 1) = decide (j < k) := by simp; omega
    rw [this]
theorem lkU_t {f : Nat → Int32} {set add : Int32} {k : Nat} (h : bt set k = true) : upd (lkU f set add k) k (lkU f set add k k ||| add) = lkU f set add (k + 1) := by
  funext j
  unfold upd lkU
  by_cases hj : j = k
  · subst hj; simp [h]
  · have : decide (j < k + 1) = decide (j < k) := by simp; omega
    rw [if_neg hj, this]
theorem stU_f {f : Nat → Int32} {set : Int32} {k : Nat} (h : bt set k = false) : stU f set k = stU f set (k + 1) := by
  funext j
  unfold stU
  by_cases hj : j = k
  · subst hj; simp [h]
  · have : decide (j < k + 1) = decide (j < k) := by simp; omega
    rw [this]
theorem stU_t {f : Nat → Int32} {set : Int32} {k : Nat} (h : bt set k = true) : upd (stU f set k) k set = stU f set (k + 1) := by
  funext j
  unfold upd stU
  by_cases hj : j = k
  · subst hj; simp [h]
  · have : decide (j < k + 1) = decide (j < k) := by simp; omega
    rw [if_neg hj, this]
/-- the arranging: what is left behind k places, the next one, the order, the phases -/
def arL (N : Nat) (be : Nat → Int32) : Nat → Int32
  | 0 => ((1 : Int32) <<< (nI N &&& 31)) - 1
  | k + 1 => arL N be k &&& (((1 : Int32) <<< (nI (fnd (fre be (arL N be k)) (N - 1)) &&& 31)) ^^^ (-1))
def arN (N : Nat) (be : Nat → Int32) (k : Nat) : Nat := fnd (fre be (arL N be k)) (N - 1)
def arO (N : Nat) (be od : Nat → Int32) : Nat → Nat → Int32
  | 0 => od
  | k + 1 => upd (arO N be od k) k (nI (arN N be k))
def arP (N : Nat) (be ph : Nat → Int32) : Nat → Nat → Int32
  | 0 => ph
  | k + 1 => upd (arP N be ph k) (arN N be k) (pO (arP N be ph k) (be (arN N be k)) N)
/-- below k those of the other row -/
def cpF (f g : Nat → Int32) (k : Nat) : Nat → Int32 := fun j => if j < k then g j else f j
theorem cpF_0 {f g : Nat → Int32} : cpF f g 0 = f := by funext j; simp [cpF]
theorem cpF_s {f g : Nat → Int32} {k : Nat} : upd (cpF f g k) k (g k) = cpF f g (k + 1) := by
  funext j
  unfold upd cpF
  by_cases hj : j = k
  · subst hj; simp
  · by_cases h2 : j < k
    · rw [if_neg hj, if_pos h2, if_pos (by omega)]
    · rw [if_neg hj, if_neg h2, if_neg (by omega)]
/-- how many a small set has, as the JDK counts -/
def bcI (x : Int32) : Int32 :=
  let a := x - ((x.toUInt32 >>> ((1 : Int32).toUInt32 &&& Int32.toUInt32 31)).toInt32 &&& 1431655765)
  let b := (a &&& 858993459) + ((a.toUInt32 >>> ((2 : Int32).toUInt32 &&& Int32.toUInt32 31)).toInt32 &&& 858993459)
  let c := (b + (b.toUInt32 >>> ((4 : Int32).toUInt32 &&& Int32.toUInt32 31)).toInt32) &&& 252645135
  let d := c + (c.toUInt32 >>> ((8 : Int32).toUInt32 &&& Int32.toUInt32 31)).toInt32
  let g := d + (d.toUInt32 >>> ((16 : Int32).toUInt32 &&& Int32.toUInt32 31)).toInt32
  g &&& 63
theorem small_and {x y : Int32} (h : small x) : small (x &&& y) := fun i hi => by rw [b_and, h i hi]; rfl
theorem small_or {x y : Int32} (h : small x) (h2 : small y) : small (x ||| y) := fun i hi => by rw [b_or, h i hi, h2 i hi]; rfl
