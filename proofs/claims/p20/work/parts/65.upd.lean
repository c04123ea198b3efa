/-! what a write makes of the law's state -/
section UPS
variable {D : va_G} {cA : ClassId} {H H1 : Heap} {S0 : Nat} {ad : Nat → Nat} {a B N : Nat} {al be to od ph mn : Nat → Int32} {bu : Int32} {fi la : Nat → Int32} {tb : Int32} {tf tl fr tt : Nat → Int32} {mA : Nat} {ax ay : Nat → Nat} {mS : Nat} {sx sy : Nat → Nat} {ab sm fo ho : Nat} {rfi rhe rab rsm : Nat → Nat} {v5 v6 : Value} {ro : Nat → Nat}
theorem rne (hr : RR ro S0 ad a ab sm fo ho rfi rhe rab rsm mA mS) {x ρ : Nat} (h : ro x = ρ) (hρ : ρ ≠ 2) : x ≠ a := fun e => hρ (h.symm.trans (by rw [e]; exact hr.2.2.1))
theorem gr9_new {z sa la9 : Nat} {rsa rla : Nat → Nat} (h1 : z ≤ sa) (h2 : z ≤ la9) (h3 : ∀ i, i < N → z ≤ rsa i) (h4 : ∀ i, i < N → z ≤ rla i) : GR (fun q => if z ≤ q then 9 else ro q) sa la9 N rsa rla := ⟨if_pos h1, if_pos h2, fun i hi => if_pos (h3 i hi), fun i hi => if_pos (h4 i hi)⟩
theorem SB.hea {j q : Nat} {x y : Int32} (hr : RR ro S0 ad a ab sm fo ho rfi rhe rab rsm mA mS) (h : SB D cA H ab sm fo ho rfi rhe rab rsm mA ax ay mS sx sy mn fr tt) (hn : ON ho H H1) (h2 : AT D ho (.inl (D.1 11, 14, .inr (.inr (.inr (.inr (va_up (fun i => some (rhe i)) j (some q))))))) H1) (hq : AT D q (.inl (cA, 2, .inl (r2M x y))) H1) : SB D cA H1 ab sm fo ho rfi (ap1 rhe j q) rab rsm mA ax ay mS sx sy mn (upd fr j x) (upd tt j y) := by
  have hk := RR.on hr.2.2.2.2.2.2.1 hn
  obtain ⟨-, -, -, r1, r2, r3, r4, r5, r6, r7, r8, -⟩ := hr
  refine ⟨h.1.kp hk (fun z => ?_) (fun i hi z => ?_), h.2.1.kp hk (fun z => ?_) (fun i hi z => ?_), h.2.2.1.kp hk (fun z => ?_) (fun i hi z => ?_), GI.hea (fun i hi => KP.at hk (h.2.2.2.2 i hi) (fun z => ?_)) h2 hq⟩
  · omega
  · have := r7 i hi; omega
  · omega
  · have := r8 i hi; omega
  · omega
  · have := r5 i hi; omega
  · have z : ro (rhe i) = 6 := z
    have := r6 i hi; omega
theorem SB.sif {j kd : Nat} {x : Int32} (hj : j < 14) (hk9 : kd < 4) (hr : RR ro S0 ad a ab sm fo ho rfi rhe rab rsm mA mS) (h : SB D cA H ab sm fo ho rfi rhe rab rsm mA ax ay mS sx sy mn fr tt) (h1 : AT D (rfi j) (.inl (cA, 4, .inl (upd (fiM mn j) kd x))) H1) (hn : ON (rfi j) H H1) : SB D cA H1 ab sm fo ho rfi rhe rab rsm mA ax ay mS sx sy (upd mn (j * 4 + kd) x) fr tt := by
  have hk := RR.on (hr.2.2.2.2.2.2.2.1 j hj) hn
  obtain ⟨-, -, -, r1, r2, r3, r4, r5, r6, r7, r8, r9⟩ := hr
  refine ⟨h.1.kp hk (fun z => ?_) (fun i hi z => ?_), h.2.1.kp hk (fun z => ?_) (fun i hi z => ?_), GI.sif hj hk9 h.2.2.1 r9 (fun i hi z => ?_) h1 hn, h.2.2.2.kp hk (fun z => ?_) (fun i hi z => ?_)⟩
  · omega
  · have := r7 i hi; omega
  · omega
  · have := r8 i hi; omega
  · have := r5 i hi; rw [z] at this; omega
  · omega
  · have := r6 i hi; omega
end UPS
theorem gr9_keep {D : va_G} {H : Heap} {ro : Nat → Nat} {sa la9 N : Nat} {rsa rla : Nat → Nat} {M1 M2 : Nat → Nat → Bool} (h : GR ro sa la9 N rsa rla) (hs : GZ D H sa N rsa M1) (hl : GZ D H la9 N rla M2) (g : Nat → Nat) : GR (fun q => if H.size ≤ q then g q else ro q) sa la9 N rsa rla := by
  have out : ∀ {q : Nat}, q < H.size → ro q = 9 → (fun q => if H.size ≤ q then g q else ro q) q = 9 := fun {q} h1 h2 => by
    show (if H.size ≤ q then g q else ro q) = 9
    rw [if_neg (by omega)]
    exact h2
  exact ⟨out (AT.lt hs.1) h.1, out (AT.lt hl.1) h.2.1, fun i hi => out (AT.lt (hs.2 i hi)) (h.2.2.1 i hi), fun i hi => out (AT.lt (hl.2 i hi)) (h.2.2.2 i hi)⟩
