def ph3 (be : Nat → Int32) (r : Nat) (f : Nat → Int32) : Nat → Nat → Int32
  | 0 => f
  | k + 1 => if bt (be r) k then upd (ph3 be r f k) r (imax (ph3 be r f k r) (ph3 be r f k k + 1)) else ph3 be r f k
def ph2 (N : Nat) (be f : Nat → Int32) : Nat → Nat → Int32
  | 0 => f
  | r + 1 => ph3 be r (ph2 N be f r) N
def ph1 (N : Nat) (be : Nat → Int32) : Nat → Nat → Int32
  | 0 => fun _ => 0
  | t + 1 => ph2 N be (ph1 N be t) N
def tel (m c b t : Int32) : Nat → Int32 := upd (upd (upd (upd (fun _ => 0) 0 (3 * m + t)) 1 (2 * c + b / 2)) 2 (2 * b + c)) 3 (4 * t + m)
def mbs (w : Nat → Int32) : Nat → Nat
  | 0 => 0
  | k + 1 => if w (mbs w k) < w k then k else mbs w k
def mssn (m c b t : Int32) : Int32 := if m + c + b + t = 0 then -1 else nI (mbs (tel m c b t) 4)
def mtol (N : Nat) (al be mn fr tt : Nat → Int32) (j : Nat) : Nat → Int32
  | 0 => mF fr (al j ||| be j) N
  | 1 => mT al be fr tt j N
  | 2 => bI (mdb N al be fr tt j)
  | 3 => ph1 N be N j
  | 4 => nI (ct (bt (be j)) 14)
  | 5 => nI (ct (fun k => bt (be k) j) N)
  | 6 => nI (ct (bt (al j)) 14)
  | 7 => mssn (mA mn (al j) 0 N) (mA mn (al j) 1 N) (mA mn (al j) 2 N) (mA mn (al j) 3 N)
  | _ => bI (dtd fr j)
def mcou (N : Nat) (al be mn fr tt : Nat → Int32) : Nat → Int32
  | 0 => nI N
  | 1 => if nI N = 0 then 0 else phs (ph1 N be N) 14
  | 2 => nI (ct (mdb N al be fr tt) N)
  | 3 => nI (ct (dtd fr) N)
  | 4 => nI (prs be N)
  | 5 => nI (srt al N)
  | _ => sI mn (4 * N)
def mmean (N : Nat) (be : Nat → Int32) : UInt64 := if nI N = 0 then FP.dconst0 else FP.ddiv (FP.i2d (sI (ph1 N be N) 14)) (FP.i2d (nI N))
def mxM (N : Nat) (al be mn fr tt : Nat → Int32) (d : Int64) : Nat → Int64
  | 0 => d
  | k + 1 => mxT (fun kd => mA mn (al k) kd N) (mxT (mtol N al be mn fr tt k) (mxM N al be mn fr tt d k) 9) 4 * 31 + (be k).toInt64
def mdig (N : Nat) (al be mn fr tt : Nat → Int32) : Int64 := mxM N al be mn fr tt (mxT (fun k => nI (arN N be k)) (mxT (mcou N al be mn fr tt) 1361 7) N) N
def mblM (N : Nat) (al be fr tt : Nat → Int32) : Nat → Int32
  | 0 => nI (ct (mdb N al be fr tt) N)
  | k + 1 => if dtd fr k && decide (nI (ct (mdb N al be (upd fr k (-1)) tt) N) < mblM N al be fr tt k) then nI (ct (mdb N al be (upd fr k (-1)) tt) N) else mblM N al be fr tt k
def mblB (N : Nat) (al be fr tt : Nat → Int32) : Nat → Int32
  | 0 => -1
  | k + 1 => if dtd fr k && decide (nI (ct (mdb N al be (upd fr k (-1)) tt) N) < mblM N al be fr tt k) then nI k else mblB N al be fr tt k
theorem upd_back {f : Nat → Int32} {k : Nat} {x : Int32} : upd (upd f k x) k (f k) = f := by
  funext j
  unfold upd
  by_cases h : j = k
  · subst h; simp
  · simp [h]
