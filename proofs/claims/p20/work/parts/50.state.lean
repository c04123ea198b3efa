/-! the law's own state: rows, squares of booleans, the simulation as its reading methods see it -/
def RW (D : va_G) (c1 cR : ClassId) (H : Heap) (o m : Nat) (r : Nat → Nat) (k : Nat) (M : Nat → Nat → Int32) : Prop := AT D o (.inl (c1, m, .inr (.inr (.inr (.inr (fun i => some (r i))))))) H ∧ ∀ i, i < m → AT D (r i) (.inl (cR, k, .inl (M i))) H
theorem RW.kp {D : va_G} {c1 cR : ClassId} {H H1 : Heap} {o m k : Nat} {r : Nat → Nat} {M : Nat → Nat → Int32} {B : Nat → Prop} (h : RW D c1 cR H o m r k M) (hk : KP B H H1) (ho : ¬ B o) (hr : ∀ i, i < m → ¬ B (r i)) : RW D c1 cR H1 o m r k M := ⟨hk.at h.1 ho, fun i hi => hk.at (h.2 i hi) (hr i hi)⟩
theorem RW.ex {D : va_G} {c1 cR : ClassId} {H H1 : Heap} {o m k : Nat} {r : Nat → Nat} {M : Nat → Nat → Int32} (h : RW D c1 cR H o m r k M) (hE : EX H H1) : RW D c1 cR H1 o m r k M := h.kp hE id (fun _ _ => id)
theorem RW.cong {D : va_G} {c1 cR : ClassId} {H : Heap} {o m k : Nat} {r : Nat → Nat} {M M2 : Nat → Nat → Int32} (h : RW D c1 cR H o m r k M) (e : ∀ i j, i < m → j < k → M i j = M2 i j) : RW D c1 cR H o m r k M2 := ⟨h.1, fun i hi => at_cong (h.2 i hi) (fun j hj => e i j hi hj)⟩
abbrev GZ (D : va_G) (H : Heap) (o N : Nat) (r : Nat → Nat) (B : Nat → Nat → Bool) : Prop := RW D (D.1 12) (D.1 10) H o N r N (fun i j => bI (B i j))
abbrev GI (D : va_G) (cA : ClassId) (H : Heap) (o m : Nat) (r : Nat → Nat) (k : Nat) (M : Nat → Nat → Int32) : Prop := RW D (D.1 11) cA H o m r k M
/-- a hearth's row: its first year, its last one -/
abbrev hrM (fr tt : Nat → Int32) : Nat → Nat → Int32 := fun i k => if k = 0 then fr i else tt i
abbrev fiM (mn : Nat → Int32) : Nat → Nat → Int32 := fun i k => mn (i * 4 + k)
def SR (D : va_G) (cA : ClassId) (H : Heap) (a N ab sm fi he sa la : Nat) (rsa rla rhe rfi : Nat → Nat) (al be fr tt mn : Nat → Int32) : Prop := AT D a (.inr (4, [.int (nI N), .ref ab, .ref sm, .ref fi, .ref he, .ref sa, .ref la])) H ∧ GZ D H sa N rsa (fun i j => bt (al i) j) ∧ GZ D H la N rla (fun i j => bt (be i) j) ∧ GI D cA H he 14 rhe 2 (hrM fr tt) ∧ GI D cA H fi 14 rfi 4 (fiM mn)
theorem SR.ex {D : va_G} {cA : ClassId} {H H1 : Heap} {a N ab sm fi he sa la : Nat} {rsa rla rhe rfi : Nat → Nat} {al be fr tt mn : Nat → Int32} (h : SR D cA H a N ab sm fi he sa la rsa rla rhe rfi al be fr tt mn) (hE : EX H H1) : SR D cA H1 a N ab sm fi he sa la rsa rla rhe rfi al be fr tt mn := ⟨hE.at h.1, h.2.1.ex hE, h.2.2.1.ex hE, h.2.2.2.1.ex hE, h.2.2.2.2.ex hE⟩
theorem bN_t {b : Bool} (h : b = true) : (1 : Int32) = nI (if b then 1 else 0) := by rw [h]; rfl
theorem bN_f {b : Bool} (h : b = false) : (0 : Int32) = nI (if b then 1 else 0) := by rw [h]; rfl
theorem bN_ct {p : Nat → Bool} {k a : Nat} : nI (a + ct p k + (if p k then 1 else 0)) = nI (a + ct p (k + 1)) := by rw [show ct p (k + 1) = ct p k + (if p k then 1 else 0) from rfl, Nat.add_assoc]
/-- the folds of the simulation's loops -/
def sF (fr : Nat → Int32) (p : Nat → Bool) : Nat → Int32
  | 0 => 0
  | k + 1 => if p k = true ∧ ¬ fr k ≤ sF fr p k then fr k else sF fr p k
def sT (fr tt : Nat → Int32) (p : Nat → Bool) : Nat → Int32
  | 0 => 9999
  | k + 1 => if p k = true ∧ ¬ fr k < 0 ∧ ¬ sT fr tt p k ≤ tt k then tt k else sT fr tt p k
abbrev pF (al be : Nat → Int32) (j : Nat) : Nat → Bool := fun k => bt (al j) k || bt (be j) k
abbrev pT (al be : Nat → Int32) (j : Nat) : Nat → Bool := fun k => bt (al j) k || bt (be k) j
def sD (N : Nat) (al be fr tt : Nat → Int32) (j : Nat) : Bool := !decide (sF fr (pF al be j) N ≤ sT fr tt (pT al be j) N)
def pB (be : Nat → Int32) (N : Nat) : Nat → Nat
  | 0 => 0
  | k + 1 => pB be N k + ct (bt (be k)) N
def anyB (p : Nat → Bool) : Nat → Bool
  | 0 => false
  | k + 1 => anyB p k || p k
def nxA (be : Nat → Int32) (f : Nat → Bool) (N a x : Nat) : Bool := anyB (fun a' => f a' && bt (be a') x) a && decide (x < N)
def nxB (be : Nat → Int32) (f : Nat → Bool) (N a b x : Nat) : Bool := nxA be f N a x || (f a && bt (be a) x && decide (x < b))
def lvB (be : Nat → Int32) (N j : Nat) : Nat → Nat → Bool
  | 0, x => decide (x = j)
  | t + 1, x => nxA be (lvB be N j t) N N x
theorem anyB_at {p : Nat → Bool} : ∀ {n : Nat}, anyB p n = true ↔ ∃ k, k < n ∧ p k = true
  | 0 => by simp [anyB]
  | n + 1 => by
    simp only [anyB, Bool.or_eq_true]
    rw [anyB_at]
    constructor
    · rintro (⟨k, a, b⟩ | h)
      · exact ⟨k, by omega, b⟩
      · exact ⟨n, by omega, h⟩
    · rintro ⟨k, a, b⟩
      rcases Nat.lt_succ_iff_lt_or_eq.mp a with q | q
      · exact Or.inl ⟨k, q, b⟩
      · subst q
        exact Or.inr b
theorem lv_0w {j : Nat} : upd (fun _ => 0) j (bI true) = fun x => bI (decide (x = j)) := by
  funext x
  unfold upd
  by_cases h : x = j
  · rw [if_pos h, decide_eq_true h]
  · rw [if_neg h, decide_eq_false h]; rfl
theorem nx_0w {be : Nat → Int32} {f : Nat → Bool} {N : Nat} : (fun _ => (0 : Int32)) = fun x => bI (nxA be f N 0 x) := by
  funext x
  rfl
theorem nx_b0 {be : Nat → Int32} {f : Nat → Bool} {N a : Nat} : (fun x => bI (nxA be f N a x)) = fun x => bI (nxB be f N a 0 x) := by
  funext x
  unfold nxB
  rw [decide_eq_false (by omega), Bool.and_false, Bool.or_false]
theorem nx_bN {be : Nat → Int32} {f : Nat → Bool} {N a : Nat} : (fun x => bI (nxB be f N a N x)) = fun x => bI (nxA be f N (a + 1) x) := by
  funext x
  unfold nxB nxA
  simp only [anyB]
  congr 1
  cases anyB (fun a' => f a' && bt (be a') x) a <;> cases f a && bt (be a) x <;> cases decide (x < N) <;> rfl
theorem nx_st {be : Nat → Int32} {f : Nat → Bool} {N a b : Nat} (h1 : f a = true) (h2 : bt (be a) b = true) : upd (fun x => bI (nxB be f N a b x)) b (bI true) = fun x => bI (nxB be f N a (b + 1) x) := by
  funext x
  unfold upd nxB
  by_cases h : x = b
  · subst h
    rw [if_pos rfl, h1, h2, decide_eq_true (by omega : x < x + 1)]
    simp
  · rw [if_neg h]
    have e : decide (x < b + 1) = decide (x < b) := by simp; omega
    rw [e]
theorem nx_no {be : Nat → Int32} {f : Nat → Bool} {N a b : Nat} (h : (f a && bt (be a) b) = false) : (fun x => bI (nxB be f N a b x)) = fun x => bI (nxB be f N a (b + 1) x) := by
  funext x
  unfold nxB
  by_cases e : x = b
  · subst e
    rw [h]
    simp
  · have e2 : decide (x < b + 1) = decide (x < b) := by simp; omega
    rw [e2]
theorem stp (t : Nat) : nI t - 1 + 1 = nI (t + 1) - 1 := by rw [nI_pred]; exact Int32.sub_add_cancel _ _
def sBs (w : Nat → Int32) : Nat := if w 0 < w (if w 1 < w (if w 2 < w 3 then 3 else 2) then (if w 2 < w 3 then 3 else 2) else 1) then (if w 1 < w (if w 2 < w 3 then 3 else 2) then (if w 2 < w 3 then 3 else 2) else 1) else 0
def sSe (m c b t : Int32) : Int32 := if m + c + b + t = 0 then -1 else nI (sBs (tel m c b t))
/-- rows laid over, one by one -/
def cpq (r : Nat → Nat) (k : Nat) : Nat → Option Nat := fun i => if i < k then some (r i) else none
theorem cpq_0 {r : Nat → Nat} : (fun _ => none) = cpq r 0 := by
  funext i
  unfold cpq
  rw [if_neg (by omega)]
theorem cpq_s {r : Nat → Nat} {k : Nat} : va_up (cpq r k) k (some (r k)) = cpq r (k + 1) := by
  funext i
  unfold va_up cpq
  by_cases h : i = k
  · subst h
    rw [if_pos rfl, if_pos (by omega)]
  · rw [if_neg h]
    by_cases h2 : i < k
    · rw [if_pos h2, if_pos (by omega)]
    · rw [if_neg h2, if_neg (by omega)]
theorem cpq_e {r : Nat → Nat} {m v i : Nat} (hi : i < m + 1) : va_up (cpq r m) m (some v) i = some (ap1 r m v i) := by
  unfold va_up cpq ap1
  by_cases h : i = m
  · rw [if_pos h, if_pos h]
  · rw [if_neg h, if_neg h, if_pos (by omega)]
