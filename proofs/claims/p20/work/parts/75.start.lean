def adL (l : List Nat) (j : Nat) : Nat := match l, j with | [], _ => 0 | a :: _, 0 => a | _ :: l, j + 1 => adL l j
set_option maxHeartbeats 4000000 in
set_option maxRecDepth 100000 in
/-- THE LAW, from its entry -/
theorem whole_start {p : Program} {e : Env} {s : State} {m : MethodId} {below : List Frame} {meth : Method} {c : Code} (l : Launch) (hflags : l.flags = flags0) {b L : Nat} {xs : Nat → Int32} (hL : L ≤ 260) (C0 : lw_At p s m meth c b L xs) : W p l e room_1 s m #[Value.ref b] below meth c s.heap [] 0 0 (lw_Z below #[Value.ref b] s) (entryFrame m ([Value.ref b] : List Value).toArray 18) := by
  have C1 := C0
  obtain ⟨hx, hb, hr, hml, hown, hts1, hSX, hbl, hlocks, hgv⟩ := C0
  obtain ⟨D, cA, hK⟩ := tab_KK C1
  have hb : c.code = cL_law := hb
  have hts : ∀ w ∈ wsL_law, w.before #[Value.ref b] s = true := fun w h => hts1 w (wsL_law_in w h)
  have hown : s.vm.findClass RL = some m.cls := hown
  have hA : ∀ q : Nat, s.heap.size ≤ q → (fun q => s.heap.size ≤ q) q := fun _ h => h
  have hS : va_S (fun q => s.heap.size ≤ q) s.heap s.heap [] := va_S.rf
  have hP : va_P D vwCl [] s.heap := fun k q h => by simp at h
  have hD : va_D (fun q => s.heap.size ≤ q) [] := ⟨fun i j p q h => by simp at h, fun k q h => by simp at h⟩
  have hl := lv_entry ([.ref b]) (n := 18) (Nat.le_of_ble_eq_true rfl)
  rw [lg_entry_eq]
  generalize (lg_sl ([.ref b]) ++ List.replicate (18 - (lg_sl ([.ref b])).length) Slot.unset).toArray = ls at hl ⊢
  have hl : lv_has ls 18 [(0, .ref b)] := hl
  refine va_new (ci := 3) (fs := [.null, .null, .null, .null]) (C := RX3) (T := TX3) (N := 4) hx hb hts inlX3 tyX3 tyX3_ok hown (hts (.classLink RL 26 RX3) (by decide +kernel)) (hts (.instantiable RX3 4) (by decide +kernel)) (hts (.initialized RX3) (by decide +kernel)) hK.1 hP hD hS hA rfl (fun j hj => by rcases (show j = 0 ∨ j = 1 ∨ j = 2 ∨ j = 3 by omega) with rfl | rfl | rfl | rfl <;> rfl) (by show _ ≤ 600130; omega) (by show _ ≤ 7301080; omega) dL_law_0 (fun qx H hP hD hS => ?_)
  have hP : va_P D vwCl [(qx, .inr (3, [.null, .null, .null, .null]))] H := hP
  have hD : va_D (fun q => s.heap.size ≤ q) [(qx, .inr (3, [.null, .null, .null, .null]))] := hD
  refine lv_dup hx hb dL_law_3 rfl ?_
  refine RQ_go (wr := []) (va_runI (As := []) (rest := [.ref qx]) ⟨hx, hb, hml, hown, hts⟩ (c_X3_init l (D := D) (cA := cA) (H0 := H) (hP := hP.sub (ws' := [(qx, .inr (3, [.null, .null, .null, .null]))]) [0] rfl) (hD0 := (hD.sub (ws' := [(qx, .inr (3, [.null, .null, .null, .null]))]) [0] (by decide) rfl).weaken (fun _ _ _ _ => trivial))) (cwI 0 hts gL_law_X3_init rfl rfl rfl (hts (.initialized RX3) (by decide +kernel)) (hts (.methodLink RL 83 yX3_init) (by decide +kernel)) (hts (.instanceMethod yX3_init) (by decide +kernel)) rfl (by decide +kernel) ⟨Nat.le_of_ble_eq_true rfl, Nat.le_of_ble_eq_true rfl⟩) (cP_S hK) rfl rfl hl.1 rfl (lv_room (Nat.le_of_ble_eq_true rfl)) dL_law_4 ⟨by show _ ≤ 600130; omega, by show _ ≤ 7301080; omega⟩) hP hD hS hA [0] [] rfl rfl (by decide) (by decide) (fun v9 W9 H locs hp9 hP hD hS hz => ?_)
  obtain ⟨qs, qal, qbe, qto, qod, qph, qv, qm, qh, qf, ql, qt, qtf, qtl, rfl, rfl⟩ := hp9
  have hP : va_P D vwCl [(qx, .inr (3, [.ref qs, .ref qv, .ref qh, .ref qt])), (qs, .inr (2, [.int 0, .ref qal, .ref qbe, .ref qto, .ref qod, .ref qph])), (qal, .inl (cA, 14, .inl (fun _ => 0))), (qbe, .inl (cA, 14, .inl (fun _ => 0))), (qto, .inl (cA, 14, .inl (fun _ => 0))), (qod, .inl (cA, 14, .inl (fun _ => 0))), (qph, .inl (cA, 14, .inl (fun _ => 0))), (qv, .inr (1, [.ref qm])), (qm, .inl (cA, 56, .inl (fun _ => 0))), (qh, .inr (0, [.int 0, .ref qf, .ref ql])), (qf, .inl (cA, 14, .inl (cpF (fun _ => 0) (fun _ => 0) 14))), (ql, .inl (cA, 14, .inl (cpF (fun _ => 0) (fun _ => 9999) 14))), (qt, .inr (0, [.int 0, .ref qtf, .ref qtl])), (qtf, .inl (cA, 14, .inl (cpF (fun _ => 0) (fun _ => 0) 14))), (qtl, .inl (cA, 14, .inl (cpF (fun _ => 0) (fun _ => 9999) 14)))] H := hP
  have hD : va_D (fun q => s.heap.size ≤ q) [(qx, .inr (3, [.ref qs, .ref qv, .ref qh, .ref qt])), (qs, .inr (2, [.int 0, .ref qal, .ref qbe, .ref qto, .ref qod, .ref qph])), (qal, .inl (cA, 14, .inl (fun _ => 0))), (qbe, .inl (cA, 14, .inl (fun _ => 0))), (qto, .inl (cA, 14, .inl (fun _ => 0))), (qod, .inl (cA, 14, .inl (fun _ => 0))), (qph, .inl (cA, 14, .inl (fun _ => 0))), (qv, .inr (1, [.ref qm])), (qm, .inl (cA, 56, .inl (fun _ => 0))), (qh, .inr (0, [.int 0, .ref qf, .ref ql])), (qf, .inl (cA, 14, .inl (cpF (fun _ => 0) (fun _ => 0) 14))), (ql, .inl (cA, 14, .inl (cpF (fun _ => 0) (fun _ => 9999) 14))), (qt, .inr (0, [.int 0, .ref qtf, .ref qtl])), (qtf, .inl (cA, 14, .inl (cpF (fun _ => 0) (fun _ => 0) 14))), (qtl, .inl (cA, 14, .inl (cpF (fun _ => 0) (fun _ => 9999) 14)))] := hD
  refine W.eq (g2 := F0 m 7 ls [.ref qx]) rfl ?_
  refine lv_astore_n (lv' := [(1, .ref qx), (0, .ref b)]) hx hb dL_law_7 rfl hl (by decide) rfl (fun ls hl => ?_)
  refine W.widen (k := 15) (n := 199) (by omega) (by omega) ?_
  exact law_main l hL C1 hK (S0 := s.heap.size) rfl (ad := adL [qx, qs, qal, qbe, qto, qod, qph, qv, qm, qh, qf, ql, qt, qtf, qtl]) hP hD hS hl
