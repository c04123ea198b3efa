/-! what the tables and the start give -/
theorem arr_cA {ty : FieldType} {args : Array Value} {s : State} (h : (Cond.arrayClass ty).before args s = true) : ∃ cA, ArrOfT s cA ty ∧ s.vm.findClass ("[" ++ ty.toString) = some cA := by
  obtain ⟨cA, kA, comp, h1, h2, h3⟩ := Cond.arrayClass_spec (first := s) (o := none) (idx := []) h
  exact ⟨cA, fun n z => ⟨fun k h => (by cases h), kA, h2, comp, h3⟩, h1⟩
theorem arr_cO {ty : FieldType} {args : Array Value} {s : State} (h : (Cond.arrayOver (.array ty)).before args s = true) : ∃ cA, ArrOfT s cA (.array ty) ∧ s.vm.findClass ("[" ++ (FieldType.array ty).toString) = some cA := by
  obtain ⟨comp, cA2, kA, k3, -, k1, k2, k4⟩ := arrayOverA_spec h
  exact ⟨cA2, fun n z => ⟨fun k h => (by cases h), kA, k1, comp, k2⟩, k4⟩
set_option maxHeartbeats 4000000 in
set_option maxRecDepth 100000 in
theorem tab_KK {p : Program} {s : State} {m : MethodId} {meth : Method} {c : Code} {b L : Nat} {xs : Nat → Int32} (C0 : lw_At p s m meth c b L xs) : ∃ (D : va_G) (cA : ClassId), KK D cA s := by
  obtain ⟨hx, hb, hr, hml, hown, hts, hSX, hbl, hlocks, hgv⟩ := C0
  have hq := flat_of_before _ hgv
  obtain ⟨c0, i0, k0⟩ := u_known (C := RX0) (T := TX0) (N := 3) (n := 3) hts inX0 (hts (.instantiable RX0 3) (by decide +kernel))
  obtain ⟨c1, i1, k1⟩ := u_known (C := RX1) (T := TX1) (N := 1) (n := 1) hts inX1 (hts (.instantiable RX1 1) (by decide +kernel))
  obtain ⟨c2, i2, k2⟩ := u_known (C := RX2) (T := TX2) (N := 6) (n := 6) hts inX2 (hts (.instantiable RX2 6) (by decide +kernel))
  obtain ⟨c3, i3, k3⟩ := u_known (C := RX3) (T := TX3) (N := 4) (n := 4) hts inX3 (hts (.instantiable RX3 4) (by decide +kernel))
  obtain ⟨c4, i4, k4⟩ := u_known (C := RX4) (T := TX4) (N := 7) (n := 7) hts inX4 (hts (.instantiable RX4 7) (by decide +kernel))
  obtain ⟨cA, a1, a2⟩ := arr_cA (ty := .int) (hts (.arrayClass .int) (by decide +kernel))
  obtain ⟨cZ, b1, b2⟩ := arr_cA (ty := .boolean) (hts (.arrayClass .boolean) (by decide +kernel))
  have hoi : (Cond.arrayOver (.array .int)).before #[Value.ref b] s = true := by first | exact hts (.arrayOver (.array .int)) (by decide +kernel) | exact hq (.arrayOver (.array .int)) (by decide +kernel)
  have hoz : (Cond.arrayOver (.array .boolean)).before #[Value.ref b] s = true := by first | exact hts (.arrayOver (.array .boolean)) (by decide +kernel) | exact hq (.arrayOver (.array .boolean)) (by decide +kernel)
  obtain ⟨cI2, d1, d2⟩ := arr_cO hoi
  obtain ⟨cZ2, e1, e2⟩ := arr_cO hoz
  obtain ⟨dC, dI, hKc, f10, f11, f12⟩ : ∃ (dC : Nat → ClassId) (dI : Nat → Nat → Nat), (∀ (k : Nat) (q : vw_C), vwCl[k]? = some q → u_Kn s q.1 q.2.1 q.2.2 (dC k) (dI k)) ∧ dC 10 = cZ ∧ dC 11 = cI2 ∧ dC 12 = cZ2 := by
    refine ⟨fun k => if k = 0 then c0 else if k = 1 then c1 else if k = 2 then c2 else if k = 3 then c3 else if k = 4 then c4 else if k = 10 then cZ else if k = 11 then cI2 else cZ2, fun k => if k = 0 then i0 else if k = 1 then i1 else if k = 2 then i2 else if k = 3 then i3 else i4, ?_, rfl, rfl, rfl⟩
    intro k q hq
    match k, hq with
    | 0, hq => cases hq; exact k0
    | 1, hq => cases hq; exact k1
    | 2, hq => cases hq; exact k2
    | 3, hq => cases hq; exact k3
    | 4, hq => cases hq; exact k4
    | k + 5, hq => simp [vwCl] at hq
  refine ⟨(dC, dI), cA, ⟨⟨hKc, fun k q hk => ?_⟩, ?_, ?_, ?_, ?_, ?_, ⟨hKc, fun k q hk => ?_⟩, va_AOA.to hoi, va_AOA.to hoz⟩⟩
  · match k, hk with
    | 0, hk => cases hk; exact ⟨a1, a2⟩
    | k + 1, hk => simp at hk
  · exact va_Nw.of rfl (hts _ (by decide +kernel))
  · exact va_Nw.of rfl (hts _ (by decide +kernel))
  · exact va_Nw.of rfl (hts _ (by decide +kernel))
  · exact va_Nw.of rfl (hts _ (by decide +kernel))
  · exact va_Nw.of rfl (hts _ (by decide +kernel))
  · subst f10 f11 f12
    match k, hk with
    | 0, hk => cases hk; exact ⟨b1, b2⟩
    | 1, hk => cases hk; exact ⟨d1, d2⟩
    | 2, hk => cases hk; exact ⟨e1, e2⟩
    | k + 3, hk => simp at hk
