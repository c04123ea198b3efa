theorem fa_lt (a b : Int32) : a < b ↔ a.toInt < b.toInt := Int32.lt_iff_toInt_lt
theorem fa_le (a b : Int32) : a ≤ b ↔ a.toInt ≤ b.toInt := Int32.le_iff_toInt_le
theorem fa_eq (a b : Int32) : a = b ↔ a.toInt = b.toInt := Int32.toInt_inj.symm
theorem fa_lt64 (a b : Int64) : a < b ↔ a.toInt < b.toInt := Int64.lt_iff_toInt_lt
theorem fa_le64 (a b : Int64) : a ≤ b ↔ a.toInt ≤ b.toInt := Int64.le_iff_toInt_le
theorem fa_eq64 (a b : Int64) : a = b ↔ a.toInt = b.toInt := Int64.toInt_inj.symm
/-- a comparison of two ints taken as longs -/
theorem fa_wide_lt (a b : Int32) : a.toInt64 < b.toInt64 ↔ a < b := by rw [fa_lt64, fa_lt, Int32.toInt_toInt64, Int32.toInt_toInt64]
theorem fa_wide_le (a b : Int32) : a.toInt64 ≤ b.toInt64 ↔ a ≤ b := by rw [fa_le64, fa_le, Int32.toInt_toInt64, Int32.toInt_toInt64]
theorem fa_wide_eq (a b : Int32) : a.toInt64 = b.toInt64 ↔ a = b := by rw [fa_eq64, fa_eq, Int32.toInt_toInt64, Int32.toInt_toInt64]
/-- one strict comparison gives all the others -/
theorem fa_of_lt {a b : Int32} (h : a < b) : a ≤ b ∧ ¬ b ≤ a ∧ ¬ b < a ∧ a ≠ b ∧ b ≠ a := by
  rw [fa_lt] at h
  refine ⟨?_, ?_, ?_, ?_, ?_⟩
  · rw [fa_le]; omega
  · rw [fa_le]; omega
  · rw [fa_lt]; omega
  · intro e; rw [fa_eq] at e; omega
  · intro e; rw [fa_eq] at e; omega
theorem fa_of_nlt {a b : Int32} (h : ¬ a < b) : b ≤ a := by
  rw [fa_lt] at h
  rw [fa_le]
  omega
theorem fa_of_nle {a b : Int32} (h : ¬ a ≤ b) : b < a := by
  rw [fa_le] at h
  rw [fa_lt]
  omega
theorem fa_le_ne {a b : Int32} (h : a ≤ b) (h2 : a ≠ b) : a < b := by
  rw [fa_le] at h
  rw [fa_lt]
  have h3 : a.toInt ≠ b.toInt := fun e => h2 ((fa_eq a b).mpr e)
  omega
theorem fa_three (a b : Int32) : a < b ∨ a = b ∨ b < a := by
  rw [fa_lt, fa_lt, fa_eq]
  omega
theorem fa_trans {a b c : Int32} (h : a < b) (h2 : b ≤ c) : a < c := by
  rw [fa_lt] at *
  rw [fa_le] at h2
  omega
/-! what CairnShells answers, in words of its state: N layers; al, be, to: those that are the same, below, above; ph the phases; mn the finds; bu, fi, la the hearths -/
def fY (al be fi : Nat → Int32) (j : Nat) : Int32 := gF fi (al j ||| be j) 14
def lY (al to la : Nat → Int32) (j : Nat) : Int32 := lL la (al j ||| to j) 14
def dbt (al be to fi la : Nat → Int32) (j : Nat) : Bool := decide (lY al to la j < fY al be fi j)
def wgt (m c b t : Int32) : Nat → Int32
  | 0 => 3 * m + t
  | 1 => 2 * c + b / 2
  | 2 => 2 * b + c
  | _ => 4 * t + m
def seM (m c b t : Int32) : Nat → Int32
  | 0 => 0
  | k + 1 => if seM m c b t k < wgt m c b t k then wgt m c b t k else seM m c b t k
def seB (m c b t : Int32) : Nat → Int32
  | 0 => -1
  | k + 1 => if seM m c b t k < wgt m c b t k then nI k else seB m c b t k
def ssn (mn : Nat → Int32) (set : Int32) : Int32 := seB (sS mn set 0 14) (sS mn set 1 14) (sS mn set 2 14) (sS mn set 3 14) 4
def tolV (N : Nat) (al be to ph mn : Nat → Int32) (bu : Int32) (fi la : Nat → Int32) (j : Nat) : Nat → Int32
  | 0 => fY al be fi j
  | 1 => lY al to la j
  | 2 => bI (dbt al be to fi la j)
  | 3 => ph j
  | 4 => nI (ct (bt (be j)) 14)
  | 5 => nI (ct (bt (to j)) 14)
  | 6 => nI (ct (bt (al j)) 14)
  | 7 => ssn mn (al j)
  | _ => bI (bt bu j)
def couV (N : Nat) (al be to ph mn : Nat → Int32) (bu : Int32) (fi la : Nat → Int32) : Nat → Int32
  | 0 => nI N
  | 1 => phs ph N
  | 2 => nI (ct (dbt al be to fi la) N)
  | 3 => nI (ct (bt bu) 14)
  | 4 => nI (prs be N)
  | 5 => nI (srt al N)
  | _ => sI mn 56
def mxT (f : Nat → Int32) (d : Int64) : Nat → Int64
  | 0 => d
  | k + 1 => mxT f d k * 31 + (f k).toInt64
def mxL (N : Nat) (al be to ph mn : Nat → Int32) (bu : Int32) (fi la : Nat → Int32) (j : Nat) (d : Int64) : Int64 :=
  mxT (fun kd => sS mn (al j) kd 14) (mxT (tolV N al be to ph mn bu fi la j) d 9) 4 * 31 + (be j).toInt64
def mxN (N : Nat) (al be to ph mn : Nat → Int32) (bu : Int32) (fi la : Nat → Int32) (d : Int64) : Nat → Int64
  | 0 => d
  | k + 1 => mxL N al be to ph mn bu fi la k (mxN N al be to ph mn bu fi la d k)
def digV (N : Nat) (al be to od ph mn : Nat → Int32) (bu : Int32) (fi la : Nat → Int32) : Int64 :=
  mxN N al be to ph mn bu fi la (mxT od (mxT (couV N al be to ph mn bu fi la) 1361 7) N) N
def meanV (N : Nat) (ph : Nat → Int32) : UInt64 := if nI N = 0 then FP.dconst0 else FP.ddiv (FP.i2d (sI ph N)) (FP.i2d (nI N))
theorem nonan (x : Int32) {y : Int32} (h : ¬ y = 0) : vf_n64 (FP.ddiv (FP.i2d x) (FP.i2d y)) := by
  have h1 : FP.Core.dIsNaN (FP.Core.ddiv (FP.Core.i2d x) (FP.Core.i2d y)) = false := FP.Core.ddiv_out (FP.Core.i2d_fin x).notNaN (FP.Core.i2d_fin y) (fun q => FP.Core.i2d_ne_zero h ((FP.Core.zero_bits2 _).mp q))
  have h2 : ¬ 9218868437227405312 < (FP.Core.ddiv (FP.Core.i2d x) (FP.Core.i2d y)).toNat % 2 ^ 63 := fun q => by rw [(FP.Core.isNaN_bits _).mpr q] at h1; cases h1
  show (FP.Core.ddiv (FP.Core.i2d x) (FP.Core.i2d y)) &&& 0x7fffffffffffffff ≤ 0x7ff0000000000000
  rw [UInt64.le_iff_toNat_le, UInt64.toNat_and]
  show (FP.Core.ddiv (FP.Core.i2d x) (FP.Core.i2d y)).toNat &&& (2 ^ 63 - 1) ≤ 9218868437227405312
  rw [Nat.and_two_pow_sub_one_eq_mod]
  omega
