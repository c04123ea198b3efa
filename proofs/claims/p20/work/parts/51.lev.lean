/-! the levels below a layer, and its phase -/
section LVS
variable {N : Nat} {al be to ph : Nat → Int32}
theorem lv_up (R : RI N al be to) (h : PH N be ph) {j : Nat} (hj : j < N) : ∀ t x, lvB be N j t x = true → x < N ∧ pn ph x + t ≤ pn ph j
  | 0, x, q => by
    have e : x = j := of_decide_eq_true q
    subst e
    exact ⟨hj, Nat.le_refl _⟩
  | t + 1, x, q => by
    have q : nxA be (lvB be N j t) N N x = true := q
    unfold nxA at q
    rw [Bool.and_eq_true] at q
    obtain ⟨a, ha, q2⟩ := anyB_at.mp q.1
    rw [Bool.and_eq_true] at q2
    obtain ⟨i1, i2⟩ := lv_up R h hj t a q2.1
    have := (h.rel R ha).1 x q2.2
    exact ⟨of_decide_eq_true q.2, by omega⟩
theorem lv_ex (R : RI N al be to) (h : PH N be ph) {j : Nat} (hj : j < N) : ∀ t, t ≤ pn ph j → ∃ x, x < N ∧ lvB be N j t x = true ∧ pn ph x + t = pn ph j
  | 0, _ => ⟨j, hj, decide_eq_true rfl, rfl⟩
  | t + 1, ht => by
    obtain ⟨x, hx, q, e⟩ := lv_ex R h hj t (by omega)
    rcases (h.rel R hx).2 with z | ⟨k, hk, b, e2⟩
    · omega
    · refine ⟨k, hk, ?_, by omega⟩
      show nxA be (lvB be N j t) N N k = true
      unfold nxA
      rw [Bool.and_eq_true]
      exact ⟨anyB_at.mpr ⟨x, hx, by rw [q, b]; rfl⟩, decide_eq_true hk⟩
theorem lv_any (R : RI N al be to) (h : PH N be ph) (_ : N ≤ 14) {j : Nat} (hj : j < N) (t : Nat) : anyB (lvB be N j t) N = decide (t + 1 ≤ pn ph j + 1) := by
  by_cases c : t ≤ pn ph j
  · rw [decide_eq_true (by omega)]
    obtain ⟨x, hx, q, -⟩ := lv_ex R h hj t c
    exact anyB_at.mpr ⟨x, hx, q⟩
  · rw [decide_eq_false (by omega)]
    cases d : anyB (lvB be N j t) N with
    | false => rfl
    | true =>
      obtain ⟨x, hx, q⟩ := anyB_at.mp d
      have := (lv_up R h hj t x q).2
      omega
end LVS
section MYL
variable {p : Program} {l : Launch} {e : Env} {R : Room} {s : State} {m : MethodId} {args : Array Value} {below : List Frame} {meth : Method} {c : Code} {H H0 : Heap} {locs : List Loc} {cells slots : Nat} {Q : State → Prop}
variable {cc : ByteArray} {pc : Nat} {ls : Array Slot} {rest st0 : List Value} {a : Array Value} {D : va_G} {cA : ClassId} {A : Nat → Prop}
theorem li_aast {ws : va_W} (hx : p.tables.exec = Jvm.exec) (hb : c.code = cc) (hK : KK D cA s) (hP : va_P D vwCl ws H) (hD : va_D A ws) (hS : va_S A H0 H locs) (q0 : Nat) {ad n v : Nat} {f : Nat → Option Nat} {x : vp_A} (ha : ws[q0]? = some (ad, .inl (D.1 11, n, .inr (.inr (.inr (.inr f)))))) (hv : AT D v (.inl (cA, x)) H) {j : Nat} (hj : j < n) (hn : n < 2 ^ 31) (hdg : decode cc pc = .ok (.aastore, 1))
    (kk : ∀ (H1 : Heap) (locs1 : List Loc), va_P D vwCl (ws.set q0 (ad, .inl (D.1 11, n, .inr (.inr (.inr (.inr (va_up f j (some v)))))))) H1 → va_D A (ws.set q0 (ad, .inl (D.1 11, n, .inr (.inr (.inr (.inr (va_up f j (some v)))))))) → va_S A H0 H1 locs1 → ON ad H H1 → W p l e R s m args below meth c H1 locs1 cells slots Q (F0 m (pc + 1) ls rest)) : W p l e R s m args below meth c H locs cells slots Q (F0 m pc ls (.ref v :: .int (nI j) :: .ref ad :: rest)) :=
  fa_aast (D := D) hx hb hK (hP q0 _ ha) hv hS (hD.2 q0 _ ha) hj hn hdg (fun H1 locs1 h o hS => kk H1 locs1 (hP.set hD ha h o.2) (hD.set ha) hS o)
end MYL
