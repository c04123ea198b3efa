/-! what the reference answers, in words of its state -/
theorem bI_nI (b : Bool) : bI b = nI (if b then 1 else 0) := by cases b <;> rfl
theorem bI_n1 {b : Bool} (h : ¬ bI b = 1) : (0 : Int32) = bI b := by
  cases b with
  | true => exact absurd rfl h
  | false => rfl
def isn (v lo up : Int32) : Bool := !decide (v < lo) && !decide (up < v)
def anA (be : Nat → Int32) (set : Int32) : Nat → Int32
  | 0 => set
  | k + 1 => if be k &&& set = 0 then anA be set k else anA be set k ||| ((1 : Int32) <<< (nI k &&& 31))
def anB (be : Nat → Int32) (set : Int32) : Nat → Int32
  | 0 => set
  | k + 1 => if bt set k then anB be set k ||| be k else anB be set k
def dtd (fr : Nat → Int32) (j : Nat) : Bool := !decide (fr j = -1)
def mF (fr : Nat → Int32) (set : Int32) : Nat → Int32
  | 0 => 0
  | k + 1 => if dtd fr k && bt set k then imax (mF fr set k) (fr k) else mF fr set k
def mT (al be fr tt : Nat → Int32) (j : Nat) : Nat → Int32
  | 0 => 9999
  | k + 1 => if dtd fr k && (bt (al j) k || bt (be k) j) then imin (mT al be fr tt j k) (tt k) else mT al be fr tt j k
def mdb (N : Nat) (al be fr tt : Nat → Int32) (j : Nat) : Bool := decide (mT al be fr tt j N < mF fr (al j ||| be j) N)
def mA (mn : Nat → Int32) (set : Int32) (kd : Nat) : Nat → Int32
  | 0 => 0
  | k + 1 => mA mn set kd k + (if bt set k then mn (4 * k + kd) else 0)
