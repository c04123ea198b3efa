/-! what the tables and the start give -/
theorem exactly_ref {t : Term} {C : String} {args : Array Value} {s : State} (h : (Cond.exactly t C).before args s = true) : ∃ a, t.eval args s none [] s = some (.ref a) := by
  simp only [Cond.before, Cond.holds, Cond.value] at h
  cases e : t.eval args s none [] s with
  | none => rw [e] at h; simp at h
  | some v =>
    cases v with
    | ref a => exact ⟨a, rfl⟩
    | null =>
      rw [e] at h
      cases f : s.vm.findClass C with
      | none => rw [f] at h; simp at h
      | some c => rw [f] at h; simp at h
    | _ => rw [e] at h; simp at h
theorem arr_cA {ty : FieldType} {args : Array Value} {s : State} (h : (Cond.arrayClass ty).before args s = true) : ∃ cA, ArrOfT s cA ty ∧ s.vm.findClass ("[" ++ ty.toString) = some cA := by
  obtain ⟨cA, kA, comp, h1, h2, h3⟩ := Cond.arrayClass_spec (first := s) (o := none) (idx := []) h
  exact ⟨cA, fun n z => ⟨fun k h => (by cases h), kA, h2, comp, h3⟩, h1⟩
theorem str_R {args : Array Value} {s : State} {k : Nat} {tx : String} (h1 : (Cond.stringRef RX3 k tx).before args s = true) (h2 : (Cond.exactly (Term.string RX3 k) "java/lang/String").before args s = true) : ∃ a, vk_R RX3 k tx a s := by
  obtain ⟨a, ha⟩ := exactly_ref h2
  exact ⟨a, vk_R.of h1 ha⟩
set_option maxHeartbeats 4000000 in
set_option maxRecDepth 100000 in
theorem tab_KK {p : Program} {s : State} {m : MethodId} {meth : Method} {c : Code} {b L : Nat} {xs : Nat → Int32} (C0 : lw_At p s m meth c b L xs) : ∃ (D : va_G) (cA cL : ClassId), KK D cA s ∧ XX s.heap s ∧ va_K D vwCl [(cL, .long)] s := by
  obtain ⟨hx, hb, hr, hml, hown, hts, hSX, hbl, hlocks, hgv⟩ := C0
  have hq := flat_of_before _ hgv
  obtain ⟨c0, i0, k0⟩ := u_known (C := RX0) (T := TX0) (N := 3) (n := 3) hts inX0 (hts (.instantiable RX0 3) (by decide +kernel))
  obtain ⟨c1, i1, k1⟩ := u_known (C := RX1) (T := TX1) (N := 1) (n := 1) hts inX1 (hts (.instantiable RX1 1) (by decide +kernel))
  obtain ⟨c2, i2, k2⟩ := u_known (C := RX2) (T := TX2) (N := 6) (n := 6) hts inX2 (hts (.instantiable RX2 6) (by decide +kernel))
  obtain ⟨c3, i3, k3⟩ := u_known (C := RX3) (T := TX3) (N := 4) (n := 4) hts inX3 (hts (.instantiable RX3 4) (by decide +kernel))
  obtain ⟨c4, i4, k4⟩ := u_known (C := RX4) (T := TX4) (N := 7) (n := 7) hts inX4 (hts (.instantiable RX4 7) (by decide +kernel))
  obtain ⟨dC, dI, hKc⟩ : ∃ (dC : Nat → ClassId) (dI : Nat → Nat → Nat), ∀ (k : Nat) (q : vw_C), vwCl[k]? = some q → u_Kn s q.1 q.2.1 q.2.2 (dC k) (dI k) := by
    refine ⟨fun k => if k = 0 then c0 else if k = 1 then c1 else if k = 2 then c2 else if k = 3 then c3 else c4, fun k => if k = 0 then i0 else if k = 1 then i1 else if k = 2 then i2 else if k = 3 then i3 else i4, ?_⟩
    intro k q hq
    match k, hq with
    | 0, hq => cases hq; exact k0
    | 1, hq => cases hq; exact k1
    | 2, hq => cases hq; exact k2
    | 3, hq => cases hq; exact k3
    | 4, hq => cases hq; exact k4
    | k + 5, hq => simp [vwCl] at hq
  obtain ⟨cA, a1, a2⟩ := arr_cA (ty := .int) (hts (.arrayClass .int) (by decide +kernel))
  obtain ⟨cL, b1, b2⟩ := arr_cA (ty := .long) (hts (.arrayClass .long) (by decide +kernel))
  have one : ∀ {cZ : ClassId} {ty : FieldType}, ArrOfT s cZ ty → va_RA s cZ ty → va_K (dC, dI) vwCl [(cZ, ty)] s := fun {cZ ty} h1 h2 => ⟨hKc, fun k q hk => by
    match k, hk with
    | 0, hk => cases hk; exact ⟨h1, h2⟩
    | k + 1, hk => simp at hk⟩
  have st : ∀ {k : Nat} {tx : String}, Cond.stringRef RX3 k tx ∈ lw_tbl → (Cond.exactly (Term.string RX3 k) "java/lang/String") ∈ flatC (Jvm.Cond.and given_1 narrow_1) → ∃ a, vk_R RX3 k tx a s := fun h1 h2 => str_R (hts _ h1) (hq _ h2)
  refine ⟨(dC, dI), cA, cL, ⟨one a1 a2, ?_, ?_, ?_, ⟨?_, ?_, ?_⟩, ⟨?_, ?_, ?_, ?_, ?_, ?_, ?_, ?_⟩, ?_, ?_, ?_, ?_, ?_, ?_, ?_, ?_⟩, ⟨?_, ?_⟩, one b1 b2⟩
  · exact va_Nw.of rfl (hts _ (by decide +kernel))
  · exact va_Nw.of rfl (hts _ (by decide +kernel))
  · exact va_Nw.of rfl (hts _ (by decide +kernel))
  · exact va_Nw.of rfl (hts _ (by decide +kernel))
  · exact va_Nw.of rfl (hts _ (by decide +kernel))
  · exact va_Nw.of rfl (hts _ (by decide +kernel))
  · exact va_Nw.of rfl (hts _ (by decide +kernel))
  · exact va_Nw.of rfl (hts _ (by decide +kernel))
  · exact va_Nw.of rfl (hts _ (by decide +kernel))
  · exact va_Nc.of (hq _ (by decide +kernel))
  · exact va_Nc.of (hq _ (by decide +kernel))
  · exact va_Nw.of rfl (hts _ (by decide +kernel))
  · exact va_Nw.of rfl (hts _ (by decide +kernel))
  · exact va_Nw.of rfl (hts _ (by decide +kernel))
  · exact st (by decide +kernel) (by decide +kernel)
  · exact st (by decide +kernel) (by decide +kernel)
  · exact st (by decide +kernel) (by decide +kernel)
  · exact st (by decide +kernel) (by decide +kernel)
  · exact st (by decide +kernel) (by decide +kernel)
  · exact st (by decide +kernel) (by decide +kernel)
  · exact st (by decide +kernel) (by decide +kernel)
  · exact st (by decide +kernel) (by decide +kernel)
  · exact vx_Zqof (hts _ (by decide +kernel)) (hts _ (by decide +kernel)) (hq _ (by decide +kernel)) (fun a h => Nat.not_le.mpr h)
  · exact vx_Zqof (hts _ (by decide +kernel)) (hts _ (by decide +kernel)) (hq _ (by decide +kernel)) (fun a h => Nat.not_le.mpr h)
