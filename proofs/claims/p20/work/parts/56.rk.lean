/-! reckoning: the two squares while they are made -/
def RKS (D : va_G) (H : Heap) (a ab sm fi he N o1 : Nat) (r1 : Nat → Nat) (M1 : Nat → Nat → Bool) (o2 : Nat) (r2 : Nat → Nat) (M2 : Nat → Nat → Bool) : Prop := AT D a (.inr (4, [.int (nI N), .ref ab, .ref sm, .ref fi, .ref he, .ref o1, .ref o2])) H ∧ GZ D H o1 N r1 M1 ∧ GZ D H o2 N r2 M2
/-- all apart -/
def RKD (z a N o1 : Nat) (r1 : Nat → Nat) (o2 : Nat) (r2 : Nat → Nat) : Prop := a < z ∧ z ≤ o1 ∧ z ≤ o2 ∧ (∀ i, i < N → z ≤ r1 i) ∧ (∀ i, i < N → z ≤ r2 i) ∧ (∀ i j, i < N → j < N → r1 i = r1 j → i = j) ∧ (∀ i j, i < N → j < N → r2 i = r2 j → i = j) ∧ (∀ i, i < N → r1 i ≠ o1) ∧ (∀ i, i < N → r1 i ≠ o2) ∧ (∀ i, i < N → r2 i ≠ o1) ∧ (∀ i, i < N → r2 i ≠ o2) ∧ (∀ i j, i < N → j < N → r1 i ≠ r2 j)
theorem GZ.st {D : va_G} {H H1 : Heap} {o N i j : Nat} {r : Nat → Nat} {M : Nat → Nat → Bool} {b : Bool} (h : GZ D H o N r M) (hi : i < N) (hinj : ∀ i j, i < N → j < N → r i = r j → i = j) (ho : ∀ i, i < N → r i ≠ o) (h1 : AT D (r i) (.inl (D.1 10, N, .inl (upd (fun j => bI (M i j)) j (bI b)))) H1) (hn : ON (r i) H H1) : GZ D H1 o N r (up2 M i j b) := by
  refine ⟨hn.at h.1 (fun q => ho i hi q.symm), fun x hx => ?_⟩
  by_cases e : x = i
  · subst e
    refine at_cong h1 (fun y _ => ?_)
    show upd (fun j => bI (M x j)) j (bI b) y = bI (up2 M x j b x y)
    unfold upd up2
    by_cases e2 : y = j
    · rw [if_pos e2, if_pos ⟨rfl, e2⟩]
    · rw [if_neg e2, if_neg (fun q => e2 q.2)]
  · refine at_cong (hn.at (h.2 x hx) (fun q => e (hinj _ _ hx hi q))) (fun y _ => ?_)
    show bI (M x y) = bI (up2 M i j b x y)
    unfold up2
    rw [if_neg (fun q => e q.1)]
theorem GZ.on {D : va_G} {H H1 : Heap} {o N x : Nat} {r : Nat → Nat} {M : Nat → Nat → Bool} (h : GZ D H o N r M) (ho : x ≠ o) (hr : ∀ i, i < N → x ≠ r i) (hn : ON x H H1) : GZ D H1 o N r M := ⟨hn.at h.1 (Ne.symm ho), fun i hi => hn.at (h.2 i hi) (Ne.symm (hr i hi))⟩
theorem old_at {D : va_G} {H0 H : Heap} {a x : Nat} {e : va_E} {locs : List Loc} (hS : va_S (fun q => q = a ∨ H0.size ≤ q) H0 H locs) (h : AT D x e H0) (hn : x ≠ a) : AT D x e H := KP.at (va_S.kp hS) h (fun q => Or.elim q hn (fun z => absurd (AT.lt h) (Nat.not_lt.mpr z)))
abbrev paM (x y : Nat → Nat) : Nat → Nat → Int32 := fun i k => if k = 0 then nI (x i) else nI (y i)
/-- after the reckoning -/
def rkP (D : va_G) (H0 : Heap) (a N ab sm fi he : Nat) (al be : Nat → Int32) (v : Option Value) (H1 : Heap) : Prop := v = some (.ref a) ∧ ∃ (sa la : Nat) (rsa rla : Nat → Nat), AT D a (.inr (4, [.int (nI N), .ref ab, .ref sm, .ref fi, .ref he, .ref sa, .ref la])) H1 ∧ GZ D H1 sa N rsa (fun i j => bt (al i) j) ∧ GZ D H1 la N rla (fun i j => bt (be i) j) ∧ H0.size ≤ sa ∧ H0.size ≤ la ∧ (∀ i, i < N → H0.size ≤ rsa i) ∧ ∀ i, i < N → H0.size ≤ rla i
theorem rk_end {D : va_G} {H0 H : Heap} {a ab sm fi he N o1 o2 mS mA : Nat} {r1 r2 sx sy ax ay : Nat → Nat} {al be to : Nat → Int32} (R : RI N al be to) (hs : RS N al mS sx sy) (hl : RL2 N al be mA ax ay) (hd : RKD H0.size a N o1 r1 o2 r2) (hR : RKS D H a ab sm fi he N o1 r1 (fwK (smB (idB N) sx sy mS) N N) o2 r2 (fwK (avT (fun _ _ => false) (fwK (smB (idB N) sx sy mS) N N) ax ay N mA) N N)) : rkP D H0 a N ab sm fi he al be (some (.ref a)) H :=
  ⟨rfl, o1, o2, r1, r2, hR.1, hR.2.1.cong (fun i j hi hj => congrArg bI (rkS_eq R hs hi hj)), hR.2.2.cong (fun i j hi hj => congrArg bI (rkL_eq R hs hl hi hj)), hd.2.1, hd.2.2.1, hd.2.2.2.1, hd.2.2.2.2.1⟩
section MYK
variable {p : Program} {l : Launch} {e : Env} {R : Room} {s : State} {m : MethodId} {args : Array Value} {below : List Frame} {meth : Method} {c : Code} {H H0 : Heap} {locs : List Loc} {cells slots : Nat} {Q : State → Prop}
variable {cc : ByteArray} {pc : Nat} {ls : Array Slot} {rest st0 : List Value} {D : va_G} {cA : ClassId} {a ab sm fi he N o1 o2 : Nat} {r1 r2 : Nat → Nat} {M1 M2 : Nat → Nat → Bool}
theorem rk_st1 {i j : Nat} {b : Bool} (hx : p.tables.exec = Jvm.exec) (hb : c.code = cc) (hK : KK D cA s) (hd : RKD H0.size a N o1 r1 o2 r2) (hR : RKS D H a ab sm fi he N o1 r1 M1 o2 r2 M2) (hS : va_S (fun q => q = a ∨ H0.size ≤ q) H0 H locs) (hi : i < N) (hj : j < N) (hN : N < 2 ^ 31) (hdg : decode cc pc = .ok (.bastore, 1))
    (kk : ∀ (H1 : Heap) (locs1 : List Loc), va_S (fun q => q = a ∨ H0.size ≤ q) H0 H1 locs1 → RKS D H1 a ab sm fi he N o1 r1 (up2 M1 i j b) o2 r2 M2 → W p l e R s m args below meth c H1 locs1 cells slots Q (F0 m (pc + 1) ls rest)) : W p l e R s m args below meth c H locs cells slots Q (F0 m pc ls (.int (bI b) :: .int (nI j) :: .ref (r1 i) :: rest)) := by
  obtain ⟨d1, d2, d3, d4, d5, d6, d7, d8, d9, d10, d11, d12⟩ := hd
  refine fa_zast (D := D) hx hb hK (hR.2.1.2 i hi) hS (Or.inr (d4 i hi)) hj hN hdg (fun H1 locs1 h1 hn hS1 => kk H1 locs1 hS1 ⟨hn.at hR.1 (fun q => by have := d4 i hi; omega), hR.2.1.st hi d6 d8 h1 hn, hR.2.2.on (d9 i hi) (fun j hj => d12 i j hi hj) hn⟩)
theorem rk_st2 {i j : Nat} {b : Bool} (hx : p.tables.exec = Jvm.exec) (hb : c.code = cc) (hK : KK D cA s) (hd : RKD H0.size a N o1 r1 o2 r2) (hR : RKS D H a ab sm fi he N o1 r1 M1 o2 r2 M2) (hS : va_S (fun q => q = a ∨ H0.size ≤ q) H0 H locs) (hi : i < N) (hj : j < N) (hN : N < 2 ^ 31) (hdg : decode cc pc = .ok (.bastore, 1))
    (kk : ∀ (H1 : Heap) (locs1 : List Loc), va_S (fun q => q = a ∨ H0.size ≤ q) H0 H1 locs1 → RKS D H1 a ab sm fi he N o1 r1 M1 o2 r2 (up2 M2 i j b) → W p l e R s m args below meth c H1 locs1 cells slots Q (F0 m (pc + 1) ls rest)) : W p l e R s m args below meth c H locs cells slots Q (F0 m pc ls (.int (bI b) :: .int (nI j) :: .ref (r2 i) :: rest)) := by
  obtain ⟨d1, d2, d3, d4, d5, d6, d7, d8, d9, d10, d11, d12⟩ := hd
  refine fa_zast (D := D) hx hb hK (hR.2.2.2 i hi) hS (Or.inr (d5 i hi)) hj hN hdg (fun H1 locs1 h1 hn hS1 => kk H1 locs1 hS1 ⟨hn.at hR.1 (fun q => by have := d5 i hi; omega), hR.2.1.on (d10 i hi) (fun j hj q => d12 j i hj hi q.symm) hn, hR.2.2.st hi d7 d11 h1 hn⟩)
end MYK
/-- a number below another one, out of any -/
def belV (x : Int32) (u : Nat) : Int32 := (x &&& 2147483647) - (x &&& 2147483647) / nI u * nI u
theorem bel_ex (x : Int32) {u : Nat} (h0 : 0 < u) (hu : u < 2 ^ 31) : ∃ k, k < u ∧ belV x u = nI k := by
  obtain ⟨j, hj, e⟩ := pk_andE x (m := 2147483647) 31 (by decide)
  refine ⟨j % u, Nat.mod_lt _ h0, ?_⟩
  unfold belV
  rw [e, pk_rem hj h0 hu]
