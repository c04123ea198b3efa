set_option maxHeartbeats 4000000 in
set_option maxRecDepth 100000 in
theorem c_X3_checkIndex (l : Launch) {D : va_G} {cA : ClassId} {H0 : Heap}  (v : Nat) (n : Nat) (hv : v < n) (hn : n ≤ 100) : RO l yX3_checkIndex wsX3_checkIndex 0 0 [.int (nI v), .int (nI n)] D cA H0 none := by
  refine RO_of (cc := cX3_checkIndex) (maxL := 2) (ret := none) (by decide) rfl (Nat.le_of_ble_eq_true rfl) ?_
  intro p e s m below meth c ls hx hb hml hr hown hts hlk hH hK hl
  have hown : s.vm.findClass RX3 = some m.cls := hown
  have hl : lv_has ls 2 [(0, .int (nI v)), (1, .int (nI n))] := hl
  refine lv_iload_n hx hb dX3_checkIndex_0 rfl (lv_at hl 0 rfl) ?_
  refine my_ltZ (x := v) (tgt := 9) hx hb dX3_checkIndex_1 (by decide) (by omega) ?_
  refine lv_iload_n hx hb dX3_checkIndex_4 rfl (lv_at hl 0 rfl) ?_
  refine lv_iload_n hx hb dX3_checkIndex_5 rfl (lv_at hl 1 rfl) ?_
  refine my_ltN (x := v) (y := n) (tgt := 19) hx hb dX3_checkIndex_6 (by decide) (by omega) (by omega) (fun h2 => ?_) (fun h2 => ?_)
  · exact RO_vret hx hb hr hlk hH dX3_checkIndex_19
  · exfalso; omega
set_option maxHeartbeats 4000000 in
set_option maxRecDepth 100000 in
theorem c_X3_checkLayer (l : Launch) {D : va_G} {cA : ClassId} {H0 : Heap} {qx qs qv qh qt qal qbe qto qod qph N : Nat}  (v : Nat) (hN : N ≤ 14) (hv : v < N) (hP : va_P D vwCl [(qx, .inr (3, [.ref qs, .ref qv, .ref qh, .ref qt])), (qs, .inr (2, [.int (nI N), .ref qal, .ref qbe, .ref qto, .ref qod, .ref qph]))] H0) : RO l yX3_checkLayer wsX3_checkLayer 1 21 [.ref qx, .int (nI v)] D cA H0 none := by
  refine RO_of (cc := cX3_checkLayer) (maxL := 2) (ret := none) (by decide) rfl (Nat.le_of_ble_eq_true rfl) ?_
  intro p e s m below meth c ls hx hb hml hr hown hts hlk hH hK hl
  have hown : s.vm.findClass RX3 = some m.cls := hown
  have hl : lv_has ls 2 [(0, .ref qx), (1, .int (nI v))] := hl
  have hinX2 : ∀ w ∈ wsX20, w ∈ wsX3_checkLayer := by decide +kernel
  have hinX3 : ∀ w ∈ wsX30, w ∈ wsX3_checkLayer := by decide +kernel
  refine lv_iload_n hx hb dX3_checkLayer_0 rfl (lv_at hl 1 rfl) ?_
  refine lv_aload_n hx hb dX3_checkLayer_1 rfl (lv_at hl 0 rfl) ?_
  refine va_get (D := D) (ci := 3) (v := .ref qs) (C := RX3) (T := TX3) (N := 4) hx hb hts hinX3 hown hK.1 hP 0 rfl rfl 0 (by decide) (hts (.fieldLink RX3 10 "CairnShells" "strata" "LCairnShells$Strata;") (by decide +kernel)) (fun _ h9 => h9) rfl dX3_checkLayer_2 ?_
  refine RO_go (va_runV (As := []) (rest := [.int (nI v)]) ⟨hx, hb, hml, hown, hts⟩ (c_X2_size l (D := D) (cA := cA) (H0 := H0)  (hP := hP.sub (ws' := [(qs, .inr (2, [.int (nI N), .ref qal, .ref qbe, .ref qto, .ref qod, .ref qph]))]) [1] rfl)) (cwV 0 hts gX3_checkLayer_X2_size rfl rfl rfl (by decide +kernel) ⟨Nat.le_of_ble_eq_true rfl, Nat.le_of_ble_eq_true rfl⟩) (cP_V hK (va_recv hK.1 hP (ci := 2) (q0 := 1) rfl rfl)) rfl rfl hl.1 rfl (lv_room (Nat.le_of_ble_eq_true rfl)) dX3_checkLayer_5 ⟨by omega, by omega⟩) ?_
  refine RO_goV (va_runS (As := [.int (nI v), .int (nI N)]) (rest := []) ⟨hx, hb, hml, hown, hts⟩ (c_X3_checkIndex l (D := D) (cA := cA) (H0 := H0) (v := v) (n := N) (hv := by omega) (hn := by omega)) (va_cwS 2 hts gX3_checkLayer_X3_checkIndex rfl rfl rfl (by decide +kernel) ⟨Nat.le_of_ble_eq_true rfl, Nat.le_of_ble_eq_true rfl⟩) (cP_S hK) rfl rfl hl.1 rfl (lv_room (Nat.le_of_ble_eq_true rfl)) dX3_checkLayer_8 ⟨by omega, by omega⟩) ?_
  exact RO_vret hx hb hr hlk hH dX3_checkLayer_11
set_option maxHeartbeats 4000000 in
set_option maxRecDepth 100000 in
theorem c_X3_checkKind (l : Launch) {D : va_G} {cA : ClassId} {H0 : Heap}  (v : Nat) (hv : v < 4) : RO l yX3_checkKind wsX3_checkKind 1 21 [.int (nI v)] D cA H0 none := by
  refine RO_of (cc := cX3_checkKind) (maxL := 1) (ret := none) (by decide) rfl (Nat.le_of_ble_eq_true rfl) ?_
  intro p e s m below meth c ls hx hb hml hr hown hts hlk hH hK hl
  have hown : s.vm.findClass RX3 = some m.cls := hown
  have hl : lv_has ls 1 [(0, .int (nI v))] := hl
  refine lv_iload_n hx hb dX3_checkKind_0 rfl (lv_at hl 0 rfl) ?_
  refine lv_iconst (v := 4) hx hb dX3_checkKind_1 (by decide) ?_
  refine RO_goV (va_runS (As := [.int (nI v), .int 4]) (rest := []) ⟨hx, hb, hml, hown, hts⟩ (c_X3_checkIndex l (D := D) (cA := cA) (H0 := H0) (v := v) (n := 4) (hv := by omega) (hn := by omega)) (va_cwS 2 hts gX3_checkKind_X3_checkIndex rfl rfl rfl (by decide +kernel) ⟨Nat.le_of_ble_eq_true rfl, Nat.le_of_ble_eq_true rfl⟩) (cP_S hK) rfl rfl hl.1 rfl (lv_room (Nat.le_of_ble_eq_true rfl)) dX3_checkKind_2 ⟨by omega, by omega⟩) ?_
  exact RO_vret hx hb hr hlk hH dX3_checkKind_5
