set_option maxHeartbeats 4000000 in
set_option maxRecDepth 100000 in
theorem c_X3_weight (l : Launch) {D : va_G} {cA : ClassId} {H0 : Heap}  (w : Nat) (x1 : Int32) (x2 : Int32) (x3 : Int32) (x4 : Int32) (hw : w < 4) : RO l yX3_weight wsX3_weight 0 0 [.int (nI w), .int x1, .int x2, .int x3, .int x4] D cA H0 (some (.int (wgt x1 x2 x3 x4 w))) := by
  refine RO_of (cc := cX3_weight) (maxL := 5) (ret := (some .int)) (by decide) rfl (Nat.le_of_ble_eq_true rfl) ?_
  intro p e s m below meth c ls hx hb hml hr hown hts hlk hH hK hl
  have hown : s.vm.findClass RX3 = some m.cls := hown
  have hl : lv_has ls 5 [(0, .int (nI w)), (1, .int x1), (2, .int x2), (3, .int x3), (4, .int x4)] := hl
  refine lv_iload_n hx hb dX3_weight_0 rfl (lv_at hl 0 rfl) ?_
  rcases (show w = 0 ∨ w = 1 ∨ w = 2 ∨ w = 3 by omega) with rfl | rfl | rfl | rfl
  · have hl : lv_has ls 5 [(0, .int (nI 0)), (1, .int x1), (2, .int x2), (3, .int x3), (4, .int x4)] := hl
    refine lv_tableIn (tgt := 28) hx hb dX3_weight_1 (by decide) (by decide) rfl (by decide) ?_
    refine lv_iconst (v := 3) hx hb dX3_weight_28 (by decide) ?_
    refine lv_iload_n hx hb dX3_weight_29 rfl (lv_at hl 1 rfl) ?_
    refine lv_imul hx hb dX3_weight_30 ?_
    refine lv_iload hx hb dX3_weight_31 (lv_at hl 4 rfl) ?_
    refine lv_iadd hx hb dX3_weight_33 ?_
    exact RO_zret hx hb hr hlk hH dX3_weight_34 (by rfl) rfl
  · have hl : lv_has ls 5 [(0, .int (nI 1)), (1, .int x1), (2, .int x2), (3, .int x3), (4, .int x4)] := hl
    refine lv_tableIn (tgt := 35) hx hb dX3_weight_1 (by decide) (by decide) rfl (by decide) ?_
    refine lv_iconst (v := 2) hx hb dX3_weight_35 (by decide) ?_
    refine lv_iload_n hx hb dX3_weight_36 rfl (lv_at hl 2 rfl) ?_
    refine lv_imul hx hb dX3_weight_37 ?_
    refine lv_iload_n hx hb dX3_weight_38 rfl (lv_at hl 3 rfl) ?_
    refine lv_iconst (v := 2) hx hb dX3_weight_39 (by decide) ?_
    refine lv_idiv hx hb dX3_weight_40 (by decide) ?_
    refine lv_iadd hx hb dX3_weight_41 ?_
    exact RO_zret hx hb hr hlk hH dX3_weight_42 (by rfl) rfl
  · have hl : lv_has ls 5 [(0, .int (nI 2)), (1, .int x1), (2, .int x2), (3, .int x3), (4, .int x4)] := hl
    refine lv_tableIn (tgt := 43) hx hb dX3_weight_1 (by decide) (by decide) rfl (by decide) ?_
    refine lv_iconst (v := 2) hx hb dX3_weight_43 (by decide) ?_
    refine lv_iload_n hx hb dX3_weight_44 rfl (lv_at hl 3 rfl) ?_
    refine lv_imul hx hb dX3_weight_45 ?_
    refine lv_iload_n hx hb dX3_weight_46 rfl (lv_at hl 2 rfl) ?_
    refine lv_iadd hx hb dX3_weight_47 ?_
    exact RO_zret hx hb hr hlk hH dX3_weight_48 (by rfl) rfl
  · have hl : lv_has ls 5 [(0, .int (nI 3)), (1, .int x1), (2, .int x2), (3, .int x3), (4, .int x4)] := hl
    refine lv_tableOut (tgt := 49) hx hb dX3_weight_1 (by decide) (by decide) ?_
    refine lv_iconst (v := 4) hx hb dX3_weight_49 (by decide) ?_
    refine lv_iload hx hb dX3_weight_50 (lv_at hl 4 rfl) ?_
    refine lv_imul hx hb dX3_weight_52 ?_
    refine lv_iload_n hx hb dX3_weight_53 rfl (lv_at hl 1 rfl) ?_
    refine lv_iadd hx hb dX3_weight_54 ?_
    exact RO_zret hx hb hr hlk hH dX3_weight_55 (by rfl) rfl
set_option maxHeartbeats 4000000 in
set_option maxRecDepth 100000 in
theorem c_X3_firstYear (l : Launch) {D : va_G} {cA : ClassId} {H0 : Heap} {qx qs qv qh qt qal qbe qto qod qph N : Nat} {al be : Nat → Int32} {qd qf ql : Nat} {bu : Int32} {fi : Nat → Int32} (j : Nat) (hj : j < 14) (hP : va_P D vwCl [(qx, .inr (3, [.ref qs, .ref qv, .ref qh, .ref qt])), (qs, .inr (2, [.int (nI N), .ref qal, .ref qbe, .ref qto, .ref qod, .ref qph])), (qal, .inl (cA, 14, .inl al)), (qbe, .inl (cA, 14, .inl be)), (qd, .inr (0, [.int bu, .ref qf, .ref ql])), (qf, .inl (cA, 14, .inl fi))] H0) : RO l yX3_firstYear wsX3_firstYear 2 44 [.ref qx, .ref qd, .int (nI j)] D cA H0 (some (.int (fY al be fi j))) := by
  refine RO_of (cc := cX3_firstYear) (maxL := 3) (ret := (some .int)) (by decide) rfl (Nat.le_of_ble_eq_true rfl) ?_
  intro p e s m below meth c ls hx hb hml hr hown hts hlk hH hK hl
  have hown : s.vm.findClass RX3 = some m.cls := hown
  have hl : lv_has ls 3 [(0, .ref qx), (1, .ref qd), (2, .int (nI j))] := hl
  have hinX0 : ∀ w ∈ wsX00, w ∈ wsX3_firstYear := by decide +kernel
  have hinX2 : ∀ w ∈ wsX20, w ∈ wsX3_firstYear := by decide +kernel
  have hinX3 : ∀ w ∈ wsX30, w ∈ wsX3_firstYear := by decide +kernel
  refine lv_aload_n hx hb dX3_firstYear_0 rfl (lv_at hl 1 rfl) ?_
  refine lv_aload_n hx hb dX3_firstYear_1 rfl (lv_at hl 0 rfl) ?_
  refine va_get (D := D) (ci := 3) (v := .ref qs) (C := RX3) (T := TX3) (N := 4) hx hb hts hinX3 hown hK.1 hP 0 rfl rfl 0 (by decide) (hts (.fieldLink RX3 10 "CairnShells" "strata" "LCairnShells$Strata;") (by decide +kernel)) (fun _ h9 => h9) rfl dX3_firstYear_2 ?_
  refine lv_iload_n hx hb dX3_firstYear_5 rfl (lv_at hl 2 rfl) ?_
  refine RO_go (va_runV (As := [.int (nI j)]) (rest := [.ref qd]) ⟨hx, hb, hml, hown, hts⟩ (c_X2_alike l (D := D) (cA := cA) (H0 := H0) (j := j) (hj := by omega) (hP := hP.sub (ws' := [(qs, .inr (2, [.int (nI N), .ref qal, .ref qbe, .ref qto, .ref qod, .ref qph])), (qal, .inl (cA, 14, .inl al))]) [1, 2] rfl)) (cwV 1 hts gX3_firstYear_X2_alike rfl rfl rfl (by decide +kernel) ⟨Nat.le_of_ble_eq_true rfl, Nat.le_of_ble_eq_true rfl⟩) (cP_V hK (va_recv hK.1 hP (ci := 2) (q0 := 1) rfl rfl)) rfl rfl hl.1 rfl (lv_room (Nat.le_of_ble_eq_true rfl)) dX3_firstYear_6 ⟨by omega, by omega⟩) ?_
  refine lv_aload_n hx hb dX3_firstYear_9 rfl (lv_at hl 0 rfl) ?_
  refine va_get (D := D) (ci := 3) (v := .ref qs) (C := RX3) (T := TX3) (N := 4) hx hb hts hinX3 hown hK.1 hP 0 rfl rfl 0 (by decide) (hts (.fieldLink RX3 10 "CairnShells" "strata" "LCairnShells$Strata;") (by decide +kernel)) (fun _ h9 => h9) rfl dX3_firstYear_10 ?_
  refine lv_iload_n hx hb dX3_firstYear_13 rfl (lv_at hl 2 rfl) ?_
  refine RO_go (va_runV (As := [.int (nI j)]) (rest := [.int (al j), .ref qd]) ⟨hx, hb, hml, hown, hts⟩ (c_X2_below l (D := D) (cA := cA) (H0 := H0) (j := j) (hj := by omega) (hP := hP.sub (ws' := [(qs, .inr (2, [.int (nI N), .ref qal, .ref qbe, .ref qto, .ref qod, .ref qph])), (qbe, .inl (cA, 14, .inl be))]) [1, 3] rfl)) (cwV 1 hts gX3_firstYear_X2_below rfl rfl rfl (by decide +kernel) ⟨Nat.le_of_ble_eq_true rfl, Nat.le_of_ble_eq_true rfl⟩) (cP_V hK (va_recv hK.1 hP (ci := 2) (q0 := 1) rfl rfl)) rfl rfl hl.1 rfl (lv_room (Nat.le_of_ble_eq_true rfl)) dX3_firstYear_14 ⟨by omega, by omega⟩) ?_
  refine lv_ior hx hb dX3_firstYear_17 ?_
  refine RO_go (va_runV (As := [.int ((al j) ||| (be j))]) (rest := []) ⟨hx, hb, hml, hown, hts⟩ (c_X0_greatestFirst l (D := D) (cA := cA) (H0 := H0) (x := (al j) ||| (be j)) (hP := hP.sub (ws' := [(qd, .inr (0, [.int bu, .ref qf, .ref ql])), (qf, .inl (cA, 14, .inl fi))]) [4, 5] rfl)) (cwV 1 hts gX3_firstYear_X0_greatestFirst rfl rfl rfl (by decide +kernel) ⟨Nat.le_of_ble_eq_true rfl, Nat.le_of_ble_eq_true rfl⟩) (cP_V hK (va_recv hK.1 hP (ci := 0) (q0 := 4) rfl rfl)) rfl rfl hl.1 rfl (lv_room (Nat.le_of_ble_eq_true rfl)) dX3_firstYear_18 ⟨by omega, by omega⟩) ?_
  exact RO_zret hx hb hr hlk hH dX3_firstYear_21 (by rfl) rfl
set_option maxHeartbeats 4000000 in
set_option maxRecDepth 100000 in
theorem c_X3_lastYear (l : Launch) {D : va_G} {cA : ClassId} {H0 : Heap} {qx qs qv qh qt qal qbe qto qod qph N : Nat} {al to : Nat → Int32} {qd qf ql : Nat} {bu : Int32} {la : Nat → Int32} (j : Nat) (hj : j < 14) (hP : va_P D vwCl [(qx, .inr (3, [.ref qs, .ref qv, .ref qh, .ref qt])), (qs, .inr (2, [.int (nI N), .ref qal, .ref qbe, .ref qto, .ref qod, .ref qph])), (qal, .inl (cA, 14, .inl al)), (qto, .inl (cA, 14, .inl to)), (qd, .inr (0, [.int bu, .ref qf, .ref ql])), (ql, .inl (cA, 14, .inl la))] H0) : RO l yX3_lastYear wsX3_lastYear 2 44 [.ref qx, .ref qd, .int (nI j)] D cA H0 (some (.int (lY al to la j))) := by
  refine RO_of (cc := cX3_lastYear) (maxL := 3) (ret := (some .int)) (by decide) rfl (Nat.le_of_ble_eq_true rfl) ?_
  intro p e s m below meth c ls hx hb hml hr hown hts hlk hH hK hl
  have hown : s.vm.findClass RX3 = some m.cls := hown
  have hl : lv_has ls 3 [(0, .ref qx), (1, .ref qd), (2, .int (nI j))] := hl
  have hinX0 : ∀ w ∈ wsX00, w ∈ wsX3_lastYear := by decide +kernel
  have hinX2 : ∀ w ∈ wsX20, w ∈ wsX3_lastYear := by decide +kernel
  have hinX3 : ∀ w ∈ wsX30, w ∈ wsX3_lastYear := by decide +kernel
  refine lv_aload_n hx hb dX3_lastYear_0 rfl (lv_at hl 1 rfl) ?_
  refine lv_aload_n hx hb dX3_lastYear_1 rfl (lv_at hl 0 rfl) ?_
  refine va_get (D := D) (ci := 3) (v := .ref qs) (C := RX3) (T := TX3) (N := 4) hx hb hts hinX3 hown hK.1 hP 0 rfl rfl 0 (by decide) (hts (.fieldLink RX3 10 "CairnShells" "strata" "LCairnShells$Strata;") (by decide +kernel)) (fun _ h9 => h9) rfl dX3_lastYear_2 ?_
  refine lv_iload_n hx hb dX3_lastYear_5 rfl (lv_at hl 2 rfl) ?_
  refine RO_go (va_runV (As := [.int (nI j)]) (rest := [.ref qd]) ⟨hx, hb, hml, hown, hts⟩ (c_X2_alike l (D := D) (cA := cA) (H0 := H0) (j := j) (hj := by omega) (hP := hP.sub (ws' := [(qs, .inr (2, [.int (nI N), .ref qal, .ref qbe, .ref qto, .ref qod, .ref qph])), (qal, .inl (cA, 14, .inl al))]) [1, 2] rfl)) (cwV 1 hts gX3_lastYear_X2_alike rfl rfl rfl (by decide +kernel) ⟨Nat.le_of_ble_eq_true rfl, Nat.le_of_ble_eq_true rfl⟩) (cP_V hK (va_recv hK.1 hP (ci := 2) (q0 := 1) rfl rfl)) rfl rfl hl.1 rfl (lv_room (Nat.le_of_ble_eq_true rfl)) dX3_lastYear_6 ⟨by omega, by omega⟩) ?_
  refine lv_aload_n hx hb dX3_lastYear_9 rfl (lv_at hl 0 rfl) ?_
  refine va_get (D := D) (ci := 3) (v := .ref qs) (C := RX3) (T := TX3) (N := 4) hx hb hts hinX3 hown hK.1 hP 0 rfl rfl 0 (by decide) (hts (.fieldLink RX3 10 "CairnShells" "strata" "LCairnShells$Strata;") (by decide +kernel)) (fun _ h9 => h9) rfl dX3_lastYear_10 ?_
  refine lv_iload_n hx hb dX3_lastYear_13 rfl (lv_at hl 2 rfl) ?_
  refine RO_go (va_runV (As := [.int (nI j)]) (rest := [.int (al j), .ref qd]) ⟨hx, hb, hml, hown, hts⟩ (c_X2_onTop l (D := D) (cA := cA) (H0 := H0) (j := j) (hj := by omega) (hP := hP.sub (ws' := [(qs, .inr (2, [.int (nI N), .ref qal, .ref qbe, .ref qto, .ref qod, .ref qph])), (qto, .inl (cA, 14, .inl to))]) [1, 3] rfl)) (cwV 1 hts gX3_lastYear_X2_onTop rfl rfl rfl (by decide +kernel) ⟨Nat.le_of_ble_eq_true rfl, Nat.le_of_ble_eq_true rfl⟩) (cP_V hK (va_recv hK.1 hP (ci := 2) (q0 := 1) rfl rfl)) rfl rfl hl.1 rfl (lv_room (Nat.le_of_ble_eq_true rfl)) dX3_lastYear_14 ⟨by omega, by omega⟩) ?_
  refine lv_ior hx hb dX3_lastYear_17 ?_
  refine RO_go (va_runV (As := [.int ((al j) ||| (to j))]) (rest := []) ⟨hx, hb, hml, hown, hts⟩ (c_X0_leastLast l (D := D) (cA := cA) (H0 := H0) (x := (al j) ||| (to j)) (hP := hP.sub (ws' := [(qd, .inr (0, [.int bu, .ref qf, .ref ql])), (ql, .inl (cA, 14, .inl la))]) [4, 5] rfl)) (cwV 1 hts gX3_lastYear_X0_leastLast rfl rfl rfl (by decide +kernel) ⟨Nat.le_of_ble_eq_true rfl, Nat.le_of_ble_eq_true rfl⟩) (cP_V hK (va_recv hK.1 hP (ci := 0) (q0 := 4) rfl rfl)) rfl rfl hl.1 rfl (lv_room (Nat.le_of_ble_eq_true rfl)) dX3_lastYear_18 ⟨by omega, by omega⟩) ?_
  exact RO_zret hx hb hr hlk hH dX3_lastYear_21 (by rfl) rfl
set_option maxHeartbeats 4000000 in
set_option maxRecDepth 100000 in
theorem c_X3_isDoubtful (l : Launch) {D : va_G} {cA : ClassId} {H0 : Heap} {qx qs qv qh qt qal qbe qto qod qph N : Nat} {al be to : Nat → Int32} {qd qf ql : Nat} {bu : Int32} {fi la : Nat → Int32} (j : Nat) (hj : j < 14) (hP : va_P D vwCl [(qx, .inr (3, [.ref qs, .ref qv, .ref qh, .ref qt])), (qs, .inr (2, [.int (nI N), .ref qal, .ref qbe, .ref qto, .ref qod, .ref qph])), (qal, .inl (cA, 14, .inl al)), (qbe, .inl (cA, 14, .inl be)), (qto, .inl (cA, 14, .inl to)), (qd, .inr (0, [.int bu, .ref qf, .ref ql])), (qf, .inl (cA, 14, .inl fi)), (ql, .inl (cA, 14, .inl la))] H0) : RO l yX3_isDoubtful wsX3_isDoubtful 3 66 [.ref qx, .ref qd, .int (nI j)] D cA H0 (some (.int (bI (dbt al be to fi la j)))) := by
  refine RO_of (cc := cX3_isDoubtful) (maxL := 3) (ret := (some .boolean)) (by decide) rfl (Nat.le_of_ble_eq_true rfl) ?_
  intro p e s m below meth c ls hx hb hml hr hown hts hlk hH hK hl
  have hown : s.vm.findClass RX3 = some m.cls := hown
  have hl : lv_has ls 3 [(0, .ref qx), (1, .ref qd), (2, .int (nI j))] := hl
  have hinX0 : ∀ w ∈ wsX00, w ∈ wsX3_isDoubtful := by decide +kernel
  have hinX2 : ∀ w ∈ wsX20, w ∈ wsX3_isDoubtful := by decide +kernel
  have hinX3 : ∀ w ∈ wsX30, w ∈ wsX3_isDoubtful := by decide +kernel
  refine lv_aload_n hx hb dX3_isDoubtful_0 rfl (lv_at hl 0 rfl) ?_
  refine lv_aload_n hx hb dX3_isDoubtful_1 rfl (lv_at hl 1 rfl) ?_
  refine lv_iload_n hx hb dX3_isDoubtful_2 rfl (lv_at hl 2 rfl) ?_
  refine RO_go (va_runV (As := [.ref qd, .int (nI j)]) (rest := []) ⟨hx, hb, hml, hown, hts⟩ (c_X3_firstYear l (D := D) (cA := cA) (H0 := H0) (j := j) (hj := by omega) (hP := hP.sub (ws' := [(qx, .inr (3, [.ref qs, .ref qv, .ref qh, .ref qt])), (qs, .inr (2, [.int (nI N), .ref qal, .ref qbe, .ref qto, .ref qod, .ref qph])), (qal, .inl (cA, 14, .inl al)), (qbe, .inl (cA, 14, .inl be)), (qd, .inr (0, [.int bu, .ref qf, .ref ql])), (qf, .inl (cA, 14, .inl fi))]) [0, 1, 2, 3, 5, 6] rfl)) (cwV 2 hts gX3_isDoubtful_X3_firstYear rfl rfl rfl (by decide +kernel) ⟨Nat.le_of_ble_eq_true rfl, Nat.le_of_ble_eq_true rfl⟩) (cP_V hK (va_recv hK.1 hP (ci := 3) (q0 := 0) rfl rfl)) rfl rfl hl.1 rfl (lv_room (Nat.le_of_ble_eq_true rfl)) dX3_isDoubtful_3 ⟨by omega, by omega⟩) ?_
  refine lv_aload_n hx hb dX3_isDoubtful_6 rfl (lv_at hl 0 rfl) ?_
  refine lv_aload_n hx hb dX3_isDoubtful_7 rfl (lv_at hl 1 rfl) ?_
  refine lv_iload_n hx hb dX3_isDoubtful_8 rfl (lv_at hl 2 rfl) ?_
  refine RO_go (va_runV (As := [.ref qd, .int (nI j)]) (rest := [.int (fY al be fi j)]) ⟨hx, hb, hml, hown, hts⟩ (c_X3_lastYear l (D := D) (cA := cA) (H0 := H0) (j := j) (hj := by omega) (hP := hP.sub (ws' := [(qx, .inr (3, [.ref qs, .ref qv, .ref qh, .ref qt])), (qs, .inr (2, [.int (nI N), .ref qal, .ref qbe, .ref qto, .ref qod, .ref qph])), (qal, .inl (cA, 14, .inl al)), (qto, .inl (cA, 14, .inl to)), (qd, .inr (0, [.int bu, .ref qf, .ref ql])), (ql, .inl (cA, 14, .inl la))]) [0, 1, 2, 4, 5, 7] rfl)) (cwV 2 hts gX3_isDoubtful_X3_lastYear rfl rfl rfl (by decide +kernel) ⟨Nat.le_of_ble_eq_true rfl, Nat.le_of_ble_eq_true rfl⟩) (cP_V hK (va_recv hK.1 hP (ci := 3) (q0 := 0) rfl rfl)) rfl rfl hl.1 rfl (lv_room (Nat.le_of_ble_eq_true rfl)) dX3_isDoubtful_9 ⟨by omega, by omega⟩) ?_
  refine lv_icmp_le (tgt := 19) hx hb dX3_isDoubtful_12 (by decide) (fun h1 => ?_) (fun h1 => ?_)
  · refine lv_iconst (v := 0) hx hb dX3_isDoubtful_19 (by decide) ?_
    exact RO_zret hx hb hr hlk hH dX3_isDoubtful_20 (by decide) (by first | rfl | simp [bI, dbt, h1])
  · refine lv_iconst (v := 1) hx hb dX3_isDoubtful_15 (by decide) ?_
    refine lv_goto (tgt := 20) hx hb dX3_isDoubtful_16 (by decide) ?_
    exact RO_zret hx hb hr hlk hH dX3_isDoubtful_20 (by decide) (by first | rfl | simp [bI, dbt, h1])
set_option maxHeartbeats 4000000 in
set_option maxRecDepth 100000 in
theorem c_X3_doubtfulLayers (l : Launch) {D : va_G} {cA : ClassId} {H0 : Heap} {qx qs qv qh qt qal qbe qto qod qph N : Nat} {al be to : Nat → Int32} {qd qf ql : Nat} {bu : Int32} {fi la : Nat → Int32} (hN : N ≤ 14) (hP : va_P D vwCl [(qx, .inr (3, [.ref qs, .ref qv, .ref qh, .ref qt])), (qs, .inr (2, [.int (nI N), .ref qal, .ref qbe, .ref qto, .ref qod, .ref qph])), (qal, .inl (cA, 14, .inl al)), (qbe, .inl (cA, 14, .inl be)), (qto, .inl (cA, 14, .inl to)), (qd, .inr (0, [.int bu, .ref qf, .ref ql])), (qf, .inl (cA, 14, .inl fi)), (ql, .inl (cA, 14, .inl la))] H0) : RO l yX3_doubtfulLayers wsX3_doubtfulLayers 4 88 [.ref qx, .ref qd] D cA H0 (some (.int (nI (ct (dbt al be to fi la) N)))) := by
  refine RO_of (cc := cX3_doubtfulLayers) (maxL := 4) (ret := (some .int)) (by decide) rfl (Nat.le_of_ble_eq_true rfl) ?_
  intro p e s m below meth c ls hx hb hml hr hown hts hlk hH hK hl
  have hown : s.vm.findClass RX3 = some m.cls := hown
  have hl : lv_has ls 4 [(0, .ref qx), (1, .ref qd)] := hl
  have hinX0 : ∀ w ∈ wsX00, w ∈ wsX3_doubtfulLayers := by decide +kernel
  have hinX2 : ∀ w ∈ wsX20, w ∈ wsX3_doubtfulLayers := by decide +kernel
  have hinX3 : ∀ w ∈ wsX30, w ∈ wsX3_doubtfulLayers := by decide +kernel
  refine lv_iconst (v := 0) hx hb dX3_doubtfulLayers_0 (by decide) ?_
  refine lv_istore_n (lv' := [(2, .int 0), (0, .ref qx), (1, .ref qd)]) hx hb dX3_doubtfulLayers_1 rfl hl (by decide) rfl (fun ls hl => ?_)
  refine lv_iconst (v := 0) hx hb dX3_doubtfulLayers_2 (by decide) ?_
  refine lv_istore_n (lv' := [(3, .int 0), (2, .int 0), (0, .ref qx), (1, .ref qd)]) hx hb dX3_doubtfulLayers_3 rfl hl (by decide) rfl (fun ls hl => ?_)
  suffices loop : ∀ (n k : Nat) (y : Nat), k ≤ N → N < k + n → y = ct (dbt al be to fi la) k → ∀ ls, lv_has ls 4 [(3, .int (nI k)), (2, .int (nI y)), (0, .ref qx), (1, .ref qd)] → W p l e { frames := 4, cells := 0, slots := 0, locals := 88 } s m ([.ref qx, .ref qd] : List Value).toArray below meth c H0 [] 0 0 (MQ below (roQ (some (.int (nI (ct (dbt al be to fi la) N)))) H0) ([.ref qx, .ref qd] : List Value).toArray s 0 0 (fun _ => False)) (F0 m 4 ls []) from loop (N + 1) 0 0 (by omega) (by omega) (by first | rfl | (simp []; done) | (simp []; done)) _ (lv_sub hl [0, 1, 2, 3] rfl)
  intro n
  induction n with
  | zero => intro k y hk1 hk2; exact absurd hk2 (by omega)
  | succ n ih4 =>
    intro k y hk4 hn4 ey ls hl
    refine lv_iload_n hx hb dX3_doubtfulLayers_4 rfl (lv_at hl 0 rfl) ?_
    refine lv_aload_n hx hb dX3_doubtfulLayers_5 rfl (lv_at hl 2 rfl) ?_
    refine va_get (D := D) (ci := 3) (v := .ref qs) (C := RX3) (T := TX3) (N := 4) hx hb hts hinX3 hown hK.1 hP 0 rfl rfl 0 (by decide) (hts (.fieldLink RX3 10 "CairnShells" "strata" "LCairnShells$Strata;") (by decide +kernel)) (fun _ h9 => h9) rfl dX3_doubtfulLayers_6 ?_
    refine RO_go (va_runV (As := []) (rest := [.int (nI k)]) ⟨hx, hb, hml, hown, hts⟩ (c_X2_size l (D := D) (cA := cA) (H0 := H0)  (hP := hP.sub (ws' := [(qs, .inr (2, [.int (nI N), .ref qal, .ref qbe, .ref qto, .ref qod, .ref qph]))]) [1] rfl)) (cwV 0 hts gX3_doubtfulLayers_X2_size rfl rfl rfl (by decide +kernel) ⟨Nat.le_of_ble_eq_true rfl, Nat.le_of_ble_eq_true rfl⟩) (cP_V hK (va_recv hK.1 hP (ci := 2) (q0 := 1) rfl rfl)) rfl rfl hl.1 rfl (lv_room (Nat.le_of_ble_eq_true rfl)) dX3_doubtfulLayers_9 ⟨by omega, by omega⟩) ?_
    refine my_geN (x := k) (y := N) (tgt := 33) hx hb dX3_doubtfulLayers_12 (by decide) (by omega) (by omega) (fun h1 => ?_) (fun h1 => ?_)
    · obtain rfl : N = k := by omega
      subst ey
      refine lv_iload_n hx hb dX3_doubtfulLayers_33 rfl (lv_at hl 1 rfl) ?_
      exact RO_zret hx hb hr hlk hH dX3_doubtfulLayers_34 (by rfl) rfl
    · refine lv_aload_n hx hb dX3_doubtfulLayers_15 rfl (lv_at hl 2 rfl) ?_
      refine lv_aload_n hx hb dX3_doubtfulLayers_16 rfl (lv_at hl 3 rfl) ?_
      refine lv_iload_n hx hb dX3_doubtfulLayers_17 rfl (lv_at hl 0 rfl) ?_
      refine RO_go (va_runV (As := [.ref qd, .int (nI k)]) (rest := []) ⟨hx, hb, hml, hown, hts⟩ (c_X3_isDoubtful l (D := D) (cA := cA) (H0 := H0) (j := k) (hj := by omega) (hP := hP.sub (ws' := [(qx, .inr (3, [.ref qs, .ref qv, .ref qh, .ref qt])), (qs, .inr (2, [.int (nI N), .ref qal, .ref qbe, .ref qto, .ref qod, .ref qph])), (qal, .inl (cA, 14, .inl al)), (qbe, .inl (cA, 14, .inl be)), (qto, .inl (cA, 14, .inl to)), (qd, .inr (0, [.int bu, .ref qf, .ref ql])), (qf, .inl (cA, 14, .inl fi)), (ql, .inl (cA, 14, .inl la))]) [0, 1, 2, 3, 4, 5, 6, 7] rfl)) (cwV 2 hts gX3_doubtfulLayers_X3_isDoubtful rfl rfl rfl (by decide +kernel) ⟨Nat.le_of_ble_eq_true rfl, Nat.le_of_ble_eq_true rfl⟩) (cP_V hK (va_recv hK.1 hP (ci := 3) (q0 := 0) rfl rfl)) rfl rfl hl.1 rfl (lv_room (Nat.le_of_ble_eq_true rfl)) dX3_doubtfulLayers_18 ⟨by omega, by omega⟩) ?_
      refine my_ifeq_b (tgt := 27) hx hb dX3_doubtfulLayers_21 (by decide) (fun h2 => ?_) (fun h2 => ?_)
      · refine lv_iinc (v := nI (k + 1)) (x := nI k) (lv' := [(3, .int (nI (k + 1))), (2, .int (nI y)), (0, .ref qx), (1, .ref qd)]) hx hb dX3_doubtfulLayers_27 hl (k := 0) rfl (nI_1 k) (by decide) rfl (fun ls hl => ?_)
        refine lv_goto (tgt := 4) hx hb dX3_doubtfulLayers_30 (by decide) ?_
        exact ih4 (k + 1) y (by omega) (by omega) (by subst ey; first | rfl | simp [ct, h1, h2]) _ (lv_sub hl [0, 1, 2, 3] rfl)
      · refine lv_iinc (v := nI (y + 1)) (x := nI y) (lv' := [(2, .int (nI (y + 1))), (3, .int (nI k)), (0, .ref qx), (1, .ref qd)]) hx hb dX3_doubtfulLayers_24 hl (k := 1) rfl (nI_1 y) (by decide) rfl (fun ls hl => ?_)
        refine lv_iinc (v := nI (k + 1)) (x := nI k) (lv' := [(3, .int (nI (k + 1))), (2, .int (nI (y + 1))), (0, .ref qx), (1, .ref qd)]) hx hb dX3_doubtfulLayers_27 hl (k := 1) rfl (nI_1 k) (by decide) rfl (fun ls hl => ?_)
        refine lv_goto (tgt := 4) hx hb dX3_doubtfulLayers_30 (by decide) ?_
        exact ih4 (k + 1) (y + 1) (by omega) (by omega) (by subst ey; first | rfl | simp [ct, h1, h2]) _ (lv_sub hl [0, 1, 2, 3] rfl)
set_option maxHeartbeats 4000000 in
set_option maxRecDepth 100000 in
theorem c_X3_findsOf (l : Launch) {D : va_G} {cA : ClassId} {H0 : Heap} {qx qs qv qh qt qal qbe qto qod qph N : Nat} {al : Nat → Int32} {qm : Nat} {mn : Nat → Int32}  (j : Nat) (kd : Nat) (hj : j < 14) (hkd : kd < 4) (hP : va_P D vwCl [(qx, .inr (3, [.ref qs, .ref qv, .ref qh, .ref qt])), (qs, .inr (2, [.int (nI N), .ref qal, .ref qbe, .ref qto, .ref qod, .ref qph])), (qal, .inl (cA, 14, .inl al)), (qv, .inr (1, [.ref qm])), (qm, .inl (cA, 56, .inl mn))] H0) : RO l yX3_findsOf wsX3_findsOf 2 45 [.ref qx, .int (nI j), .int (nI kd)] D cA H0 (some (.int (sS mn (al j) kd 14))) := by
  refine RO_of (cc := cX3_findsOf) (maxL := 3) (ret := (some .int)) (by decide) rfl (Nat.le_of_ble_eq_true rfl) ?_
  intro p e s m below meth c ls hx hb hml hr hown hts hlk hH hK hl
  have hown : s.vm.findClass RX3 = some m.cls := hown
  have hl : lv_has ls 3 [(0, .ref qx), (1, .int (nI j)), (2, .int (nI kd))] := hl
  have hinX1 : ∀ w ∈ wsX10, w ∈ wsX3_findsOf := by decide +kernel
  have hinX2 : ∀ w ∈ wsX20, w ∈ wsX3_findsOf := by decide +kernel
  have hinX3 : ∀ w ∈ wsX30, w ∈ wsX3_findsOf := by decide +kernel
  refine lv_aload_n hx hb dX3_findsOf_0 rfl (lv_at hl 0 rfl) ?_
  refine va_get (D := D) (ci := 3) (v := .ref qv) (C := RX3) (T := TX3) (N := 4) hx hb hts hinX3 hown hK.1 hP 0 rfl rfl 1 (by decide) (hts (.fieldLink RX3 19 "CairnShells" "sieve" "LCairnShells$Sieve;") (by decide +kernel)) (fun _ h9 => h9) rfl dX3_findsOf_1 ?_
  refine lv_aload_n hx hb dX3_findsOf_4 rfl (lv_at hl 0 rfl) ?_
  refine va_get (D := D) (ci := 3) (v := .ref qs) (C := RX3) (T := TX3) (N := 4) hx hb hts hinX3 hown hK.1 hP 0 rfl rfl 0 (by decide) (hts (.fieldLink RX3 10 "CairnShells" "strata" "LCairnShells$Strata;") (by decide +kernel)) (fun _ h9 => h9) rfl dX3_findsOf_5 ?_
  refine lv_iload_n hx hb dX3_findsOf_8 rfl (lv_at hl 1 rfl) ?_
  refine RO_go (va_runV (As := [.int (nI j)]) (rest := [.ref qv]) ⟨hx, hb, hml, hown, hts⟩ (c_X2_alike l (D := D) (cA := cA) (H0 := H0) (j := j) (hj := by omega) (hP := hP.sub (ws' := [(qs, .inr (2, [.int (nI N), .ref qal, .ref qbe, .ref qto, .ref qod, .ref qph])), (qal, .inl (cA, 14, .inl al))]) [1, 2] rfl)) (cwV 1 hts gX3_findsOf_X2_alike rfl rfl rfl (by decide +kernel) ⟨Nat.le_of_ble_eq_true rfl, Nat.le_of_ble_eq_true rfl⟩) (cP_V hK (va_recv hK.1 hP (ci := 2) (q0 := 1) rfl rfl)) rfl rfl hl.1 rfl (lv_room (Nat.le_of_ble_eq_true rfl)) dX3_findsOf_9 ⟨by omega, by omega⟩) ?_
  refine lv_iload_n hx hb dX3_findsOf_12 rfl (lv_at hl 2 rfl) ?_
  refine RO_go (va_runV (As := [.int (al j), .int (nI kd)]) (rest := []) ⟨hx, hb, hml, hown, hts⟩ (c_X1_sum l (D := D) (cA := cA) (H0 := H0) (x := al j) (kd := kd) (hkd := by omega) (hP := hP.sub (ws' := [(qv, .inr (1, [.ref qm])), (qm, .inl (cA, 56, .inl mn))]) [3, 4] rfl)) (cwV 2 hts gX3_findsOf_X1_sum rfl rfl rfl (by decide +kernel) ⟨Nat.le_of_ble_eq_true rfl, Nat.le_of_ble_eq_true rfl⟩) (cP_V hK (va_recv hK.1 hP (ci := 1) (q0 := 3) rfl rfl)) rfl rfl hl.1 rfl (lv_room (Nat.le_of_ble_eq_true rfl)) dX3_findsOf_13 ⟨by omega, by omega⟩) ?_
  exact RO_zret hx hb hr hlk hH dX3_findsOf_16 (by rfl) rfl
set_option maxHeartbeats 4000000 in
set_option maxRecDepth 100000 in
theorem c_X3_season (l : Launch) {D : va_G} {cA : ClassId} {H0 : Heap} {qx qs qv qh qt qal qbe qto qod qph N : Nat} {al : Nat → Int32} {qm : Nat} {mn : Nat → Int32}  (j : Nat) (hj : j < 14) (hP : va_P D vwCl [(qx, .inr (3, [.ref qs, .ref qv, .ref qh, .ref qt])), (qs, .inr (2, [.int (nI N), .ref qal, .ref qbe, .ref qto, .ref qod, .ref qph])), (qal, .inl (cA, 14, .inl al)), (qv, .inr (1, [.ref qm])), (qm, .inl (cA, 56, .inl mn))] H0) : RO l yX3_season wsX3_season 3 67 [.ref qx, .int (nI j)] D cA H0 (some (.int (ssn mn (al j)))) := by
  refine RO_of (cc := cX3_season) (maxL := 10) (ret := (some .int)) (by decide) rfl (Nat.le_of_ble_eq_true rfl) ?_
  intro p e s m below meth c ls hx hb hml hr hown hts hlk hH hK hl
  have hown : s.vm.findClass RX3 = some m.cls := hown
  have hl : lv_has ls 10 [(0, .ref qx), (1, .int (nI j))] := hl
  have hinX1 : ∀ w ∈ wsX10, w ∈ wsX3_season := by decide +kernel
  have hinX2 : ∀ w ∈ wsX20, w ∈ wsX3_season := by decide +kernel
  have hinX3 : ∀ w ∈ wsX30, w ∈ wsX3_season := by decide +kernel
  refine lv_aload_n hx hb dX3_season_0 rfl (lv_at hl 0 rfl) ?_
  refine lv_iload_n hx hb dX3_season_1 rfl (lv_at hl 1 rfl) ?_
  refine lv_iconst (v := 0) hx hb dX3_season_2 (by decide) ?_
  refine RO_go (va_runV (As := [.int (nI j), .int 0]) (rest := []) ⟨hx, hb, hml, hown, hts⟩ (c_X3_findsOf l (D := D) (cA := cA) (H0 := H0) (j := j) (kd := 0) (hj := by omega) (hkd := by omega) (hP := hP.sub (ws' := [(qx, .inr (3, [.ref qs, .ref qv, .ref qh, .ref qt])), (qs, .inr (2, [.int (nI N), .ref qal, .ref qbe, .ref qto, .ref qod, .ref qph])), (qal, .inl (cA, 14, .inl al)), (qv, .inr (1, [.ref qm])), (qm, .inl (cA, 56, .inl mn))]) [0, 1, 2, 3, 4] rfl)) (cwV 2 hts gX3_season_X3_findsOf rfl rfl rfl (by decide +kernel) ⟨Nat.le_of_ble_eq_true rfl, Nat.le_of_ble_eq_true rfl⟩) (cP_V hK (va_recv hK.1 hP (ci := 3) (q0 := 0) rfl rfl)) rfl rfl hl.1 rfl (lv_room (Nat.le_of_ble_eq_true rfl)) dX3_season_3 ⟨by omega, by omega⟩) ?_
  refine lv_istore_n (lv' := [(2, .int (sS mn (al j) 0 14)), (0, .ref qx), (1, .int (nI j))]) hx hb dX3_season_6 rfl hl (by decide) rfl (fun ls hl => ?_)
  refine lv_aload_n hx hb dX3_season_7 rfl (lv_at hl 1 rfl) ?_
  refine lv_iload_n hx hb dX3_season_8 rfl (lv_at hl 2 rfl) ?_
  refine lv_iconst (v := 1) hx hb dX3_season_9 (by decide) ?_
  refine RO_go (va_runV (As := [.int (nI j), .int 1]) (rest := []) ⟨hx, hb, hml, hown, hts⟩ (c_X3_findsOf l (D := D) (cA := cA) (H0 := H0) (j := j) (kd := 1) (hj := by omega) (hkd := by omega) (hP := hP.sub (ws' := [(qx, .inr (3, [.ref qs, .ref qv, .ref qh, .ref qt])), (qs, .inr (2, [.int (nI N), .ref qal, .ref qbe, .ref qto, .ref qod, .ref qph])), (qal, .inl (cA, 14, .inl al)), (qv, .inr (1, [.ref qm])), (qm, .inl (cA, 56, .inl mn))]) [0, 1, 2, 3, 4] rfl)) (cwV 2 hts gX3_season_X3_findsOf rfl rfl rfl (by decide +kernel) ⟨Nat.le_of_ble_eq_true rfl, Nat.le_of_ble_eq_true rfl⟩) (cP_V hK (va_recv hK.1 hP (ci := 3) (q0 := 0) rfl rfl)) rfl rfl hl.1 rfl (lv_room (Nat.le_of_ble_eq_true rfl)) dX3_season_10 ⟨by omega, by omega⟩) ?_
  refine lv_istore_n (lv' := [(3, .int (sS mn (al j) 1 14)), (2, .int (sS mn (al j) 0 14)), (0, .ref qx), (1, .int (nI j))]) hx hb dX3_season_13 rfl hl (by decide) rfl (fun ls hl => ?_)
  refine lv_aload_n hx hb dX3_season_14 rfl (lv_at hl 2 rfl) ?_
  refine lv_iload_n hx hb dX3_season_15 rfl (lv_at hl 3 rfl) ?_
  refine lv_iconst (v := 2) hx hb dX3_season_16 (by decide) ?_
  refine RO_go (va_runV (As := [.int (nI j), .int 2]) (rest := []) ⟨hx, hb, hml, hown, hts⟩ (c_X3_findsOf l (D := D) (cA := cA) (H0 := H0) (j := j) (kd := 2) (hj := by omega) (hkd := by omega) (hP := hP.sub (ws' := [(qx, .inr (3, [.ref qs, .ref qv, .ref qh, .ref qt])), (qs, .inr (2, [.int (nI N), .ref qal, .ref qbe, .ref qto, .ref qod, .ref qph])), (qal, .inl (cA, 14, .inl al)), (qv, .inr (1, [.ref qm])), (qm, .inl (cA, 56, .inl mn))]) [0, 1, 2, 3, 4] rfl)) (cwV 2 hts gX3_season_X3_findsOf rfl rfl rfl (by decide +kernel) ⟨Nat.le_of_ble_eq_true rfl, Nat.le_of_ble_eq_true rfl⟩) (cP_V hK (va_recv hK.1 hP (ci := 3) (q0 := 0) rfl rfl)) rfl rfl hl.1 rfl (lv_room (Nat.le_of_ble_eq_true rfl)) dX3_season_17 ⟨by omega, by omega⟩) ?_
  refine lv_istore (lv' := [(4, .int (sS mn (al j) 2 14)), (3, .int (sS mn (al j) 1 14)), (2, .int (sS mn (al j) 0 14)), (0, .ref qx), (1, .int (nI j))]) hx hb dX3_season_20 hl (by decide) rfl (fun ls hl => ?_)
  refine lv_aload_n hx hb dX3_season_22 rfl (lv_at hl 3 rfl) ?_
  refine lv_iload_n hx hb dX3_season_23 rfl (lv_at hl 4 rfl) ?_
  refine lv_iconst (v := 3) hx hb dX3_season_24 (by decide) ?_
  refine RO_go (va_runV (As := [.int (nI j), .int 3]) (rest := []) ⟨hx, hb, hml, hown, hts⟩ (c_X3_findsOf l (D := D) (cA := cA) (H0 := H0) (j := j) (kd := 3) (hj := by omega) (hkd := by omega) (hP := hP.sub (ws' := [(qx, .inr (3, [.ref qs, .ref qv, .ref qh, .ref qt])), (qs, .inr (2, [.int (nI N), .ref qal, .ref qbe, .ref qto, .ref qod, .ref qph])), (qal, .inl (cA, 14, .inl al)), (qv, .inr (1, [.ref qm])), (qm, .inl (cA, 56, .inl mn))]) [0, 1, 2, 3, 4] rfl)) (cwV 2 hts gX3_season_X3_findsOf rfl rfl rfl (by decide +kernel) ⟨Nat.le_of_ble_eq_true rfl, Nat.le_of_ble_eq_true rfl⟩) (cP_V hK (va_recv hK.1 hP (ci := 3) (q0 := 0) rfl rfl)) rfl rfl hl.1 rfl (lv_room (Nat.le_of_ble_eq_true rfl)) dX3_season_25 ⟨by omega, by omega⟩) ?_
  refine lv_istore (lv' := [(5, .int (sS mn (al j) 3 14)), (4, .int (sS mn (al j) 2 14)), (3, .int (sS mn (al j) 1 14)), (2, .int (sS mn (al j) 0 14)), (0, .ref qx), (1, .int (nI j))]) hx hb dX3_season_28 hl (by decide) rfl (fun ls hl => ?_)
  refine lv_iconst (v := (-1)) hx hb dX3_season_30 (by decide) ?_
  refine lv_istore (lv' := [(6, .int (-1)), (5, .int (sS mn (al j) 3 14)), (4, .int (sS mn (al j) 2 14)), (3, .int (sS mn (al j) 1 14)), (2, .int (sS mn (al j) 0 14)), (0, .ref qx), (1, .int (nI j))]) hx hb dX3_season_31 hl (by decide) rfl (fun ls hl => ?_)
  refine lv_iconst (v := 0) hx hb dX3_season_33 (by decide) ?_
  refine lv_istore (lv' := [(7, .int 0), (6, .int (-1)), (5, .int (sS mn (al j) 3 14)), (4, .int (sS mn (al j) 2 14)), (3, .int (sS mn (al j) 1 14)), (2, .int (sS mn (al j) 0 14)), (0, .ref qx), (1, .int (nI j))]) hx hb dX3_season_34 hl (by decide) rfl (fun ls hl => ?_)
  refine lv_iconst (v := 0) hx hb dX3_season_36 (by decide) ?_
  refine lv_istore (lv' := [(8, .int 0), (7, .int 0), (6, .int (-1)), (5, .int (sS mn (al j) 3 14)), (4, .int (sS mn (al j) 2 14)), (3, .int (sS mn (al j) 1 14)), (2, .int (sS mn (al j) 0 14)), (0, .ref qx), (1, .int (nI j))]) hx hb dX3_season_37 hl (by decide) rfl (fun ls hl => ?_)
  suffices loop : ∀ (n k : Nat) (y7 : Int32) (y6 : Int32), k ≤ 4 → 4 < k + n → y7 = seM (sS mn (al j) 0 14) (sS mn (al j) 1 14) (sS mn (al j) 2 14) (sS mn (al j) 3 14) k → y6 = seB (sS mn (al j) 0 14) (sS mn (al j) 1 14) (sS mn (al j) 2 14) (sS mn (al j) 3 14) k → ∀ ls, lv_has ls 10 [(8, .int (nI k)), (7, .int y7), (6, .int y6), (5, .int (sS mn (al j) 3 14)), (4, .int (sS mn (al j) 2 14)), (3, .int (sS mn (al j) 1 14)), (2, .int (sS mn (al j) 0 14)), (0, .ref qx), (1, .int (nI j))] → W p l e { frames := 3, cells := 0, slots := 0, locals := 67 } s m ([.ref qx, .int (nI j)] : List Value).toArray below meth c H0 [] 0 0 (MQ below (roQ (some (.int (ssn mn (al j)))) H0) ([.ref qx, .int (nI j)] : List Value).toArray s 0 0 (fun _ => False)) (F0 m 39 ls []) from loop (4 + 1) 0 0 (-1) (by omega) (by omega) (by first | rfl | (simp [seB, seM]; done) | (simp [seB, seM]; done)) (by first | rfl | (simp [seB, seM]; done) | (simp [seB, seM]; done)) _ (lv_sub hl [0, 1, 2, 3, 4, 5, 6, 7, 8] rfl)
  intro n
  induction n with
  | zero => intro k y7 y6 hk1 hk2; exact absurd hk2 (by omega)
  | succ n ih39 =>
    intro k y7 y6 hk39 hn39 ey7 ey6 ls hl
    refine lv_iload hx hb dX3_season_39 (lv_at hl 0 rfl) ?_
    refine lv_iconst (v := 4) hx hb dX3_season_41 (by decide) ?_
    refine my_geN (x := k) (y := 4) (tgt := 79) hx hb dX3_season_42 (by decide) (by omega) (by omega) (fun h1 => ?_) (fun h1 => ?_)
    · obtain rfl : k = 4 := by omega
      subst ey6
      subst ey7
      refine lv_iload hx hb dX3_season_79 (lv_at hl 2 rfl) ?_
      exact RO_zret hx hb hr hlk hH dX3_season_81 (by rfl) (by first | rfl | simp [h1])
    · refine lv_iload hx hb dX3_season_45 (lv_at hl 0 rfl) ?_
      refine lv_iload_n hx hb dX3_season_47 rfl (lv_at hl 6 rfl) ?_
      refine lv_iload_n hx hb dX3_season_48 rfl (lv_at hl 5 rfl) ?_
      refine lv_iload hx hb dX3_season_49 (lv_at hl 4 rfl) ?_
      refine lv_iload hx hb dX3_season_51 (lv_at hl 3 rfl) ?_
      refine RO_go (va_runS (As := [.int (nI k), .int (sS mn (al j) 0 14), .int (sS mn (al j) 1 14), .int (sS mn (al j) 2 14), .int (sS mn (al j) 3 14)]) (rest := []) ⟨hx, hb, hml, hown, hts⟩ (c_X3_weight l (D := D) (cA := cA) (H0 := H0) (w := k) (x1 := sS mn (al j) 0 14) (x2 := sS mn (al j) 1 14) (x3 := sS mn (al j) 2 14) (x4 := sS mn (al j) 3 14) (hw := by omega)) (va_cwS 5 hts gX3_season_X3_weight rfl rfl rfl (by decide +kernel) ⟨Nat.le_of_ble_eq_true rfl, Nat.le_of_ble_eq_true rfl⟩) (cP_S hK) rfl rfl hl.1 rfl (lv_room (Nat.le_of_ble_eq_true rfl)) dX3_season_53 ⟨by omega, by omega⟩) ?_
      refine lv_istore (lv' := [(9, .int (wgt (sS mn (al j) 0 14) (sS mn (al j) 1 14) (sS mn (al j) 2 14) (sS mn (al j) 3 14) k)), (8, .int (nI k)), (7, .int y7), (6, .int y6), (5, .int (sS mn (al j) 3 14)), (4, .int (sS mn (al j) 2 14)), (3, .int (sS mn (al j) 1 14)), (2, .int (sS mn (al j) 0 14)), (0, .ref qx), (1, .int (nI j))]) hx hb dX3_season_56 hl (by decide) rfl (fun ls hl => ?_)
      refine lv_iload hx hb dX3_season_58 (lv_at hl 0 rfl) ?_
      refine lv_iload hx hb dX3_season_60 (lv_at hl 2 rfl) ?_
      refine lv_icmp_le (tgt := 73) hx hb dX3_season_62 (by decide) (fun h2 => ?_) (fun h2 => ?_)
      · refine lv_iinc (v := nI (k + 1)) (x := nI k) (lv' := [(8, .int (nI (k + 1))), (9, .int (wgt (sS mn (al j) 0 14) (sS mn (al j) 1 14) (sS mn (al j) 2 14) (sS mn (al j) 3 14) k)), (7, .int y7), (6, .int y6), (5, .int (sS mn (al j) 3 14)), (4, .int (sS mn (al j) 2 14)), (3, .int (sS mn (al j) 1 14)), (2, .int (sS mn (al j) 0 14)), (0, .ref qx), (1, .int (nI j))]) hx hb dX3_season_73 hl (k := 1) rfl (nI_1 k) (by decide) rfl (fun ls hl => ?_)
        refine lv_goto (tgt := 39) hx hb dX3_season_76 (by decide) ?_
        exact ih39 (k + 1) y7 y6 (by omega) (by omega) (by subst ey6; subst ey7; simp only [seB, seM]; first | rw [if_pos (fa_of_nle h2)] | rw [if_neg (fun h9 => (fa_of_lt h9).2.1 h2)]) (by subst ey6; subst ey7; simp only [seB, seM]; first | rw [if_pos (fa_of_nle h2)] | rw [if_neg (fun h9 => (fa_of_lt h9).2.1 h2)]) _ (lv_sub hl [0, 2, 3, 4, 5, 6, 7, 8, 9] rfl)
      · refine lv_iload hx hb dX3_season_65 (lv_at hl 0 rfl) ?_
        refine lv_istore (lv' := [(7, .int (wgt (sS mn (al j) 0 14) (sS mn (al j) 1 14) (sS mn (al j) 2 14) (sS mn (al j) 3 14) k)), (9, .int (wgt (sS mn (al j) 0 14) (sS mn (al j) 1 14) (sS mn (al j) 2 14) (sS mn (al j) 3 14) k)), (8, .int (nI k)), (6, .int y6), (5, .int (sS mn (al j) 3 14)), (4, .int (sS mn (al j) 2 14)), (3, .int (sS mn (al j) 1 14)), (2, .int (sS mn (al j) 0 14)), (0, .ref qx), (1, .int (nI j))]) hx hb dX3_season_67 hl (by decide) rfl (fun ls hl => ?_)
        refine lv_iload hx hb dX3_season_69 (lv_at hl 2 rfl) ?_
        refine lv_istore (lv' := [(6, .int (nI k)), (7, .int (wgt (sS mn (al j) 0 14) (sS mn (al j) 1 14) (sS mn (al j) 2 14) (sS mn (al j) 3 14) k)), (9, .int (wgt (sS mn (al j) 0 14) (sS mn (al j) 1 14) (sS mn (al j) 2 14) (sS mn (al j) 3 14) k)), (8, .int (nI k)), (5, .int (sS mn (al j) 3 14)), (4, .int (sS mn (al j) 2 14)), (3, .int (sS mn (al j) 1 14)), (2, .int (sS mn (al j) 0 14)), (0, .ref qx), (1, .int (nI j))]) hx hb dX3_season_71 hl (by decide) rfl (fun ls hl => ?_)
        refine lv_iinc (v := nI (k + 1)) (x := nI k) (lv' := [(8, .int (nI (k + 1))), (6, .int (nI k)), (7, .int (wgt (sS mn (al j) 0 14) (sS mn (al j) 1 14) (sS mn (al j) 2 14) (sS mn (al j) 3 14) k)), (9, .int (wgt (sS mn (al j) 0 14) (sS mn (al j) 1 14) (sS mn (al j) 2 14) (sS mn (al j) 3 14) k)), (5, .int (sS mn (al j) 3 14)), (4, .int (sS mn (al j) 2 14)), (3, .int (sS mn (al j) 1 14)), (2, .int (sS mn (al j) 0 14)), (0, .ref qx), (1, .int (nI j))]) hx hb dX3_season_73 hl (k := 3) rfl (nI_1 k) (by decide) rfl (fun ls hl => ?_)
        refine lv_goto (tgt := 39) hx hb dX3_season_76 (by decide) ?_
        exact ih39 (k + 1) (wgt (sS mn (al j) 0 14) (sS mn (al j) 1 14) (sS mn (al j) 2 14) (sS mn (al j) 3 14) k) (nI k) (by omega) (by omega) (by subst ey6; subst ey7; simp only [seB, seM]; first | rw [if_pos (fa_of_nle h2)] | rw [if_neg (fun h9 => (fa_of_lt h9).2.1 h2)]) (by subst ey6; subst ey7; simp only [seB, seM]; first | rw [if_pos (fa_of_nle h2)] | rw [if_neg (fun h9 => (fa_of_lt h9).2.1 h2)]) _ (lv_sub hl [0, 2, 1, 4, 5, 6, 7, 8, 9] rfl)
set_option maxHeartbeats 4000000 in
set_option maxRecDepth 100000 in
theorem c_X3_toldOf (l : Launch) {D : va_G} {cA : ClassId} {H0 : Heap} {qx qs qv qh qt qal qbe qto qod qph N : Nat} {al be to ph : Nat → Int32} {qm : Nat} {mn : Nat → Int32} {qf ql : Nat} {bu : Int32} {fi la : Nat → Int32} (j : Nat) (w : Nat) (hj : j < N) (hw : w < 9) (hN : N ≤ 14) (hsa : ∀ j, j < N → small (al j)) (hsb : ∀ j, j < N → small (be j)) (hst : ∀ j, j < N → small (to j)) (hP : va_P D vwCl [(qx, .inr (3, [.ref qs, .ref qv, .ref qh, .ref qt])), (qs, .inr (2, [.int (nI N), .ref qal, .ref qbe, .ref qto, .ref qod, .ref qph])), (qal, .inl (cA, 14, .inl al)), (qbe, .inl (cA, 14, .inl be)), (qto, .inl (cA, 14, .inl to)), (qph, .inl (cA, 14, .inl ph)), (qv, .inr (1, [.ref qm])), (qm, .inl (cA, 56, .inl mn)), (qh, .inr (0, [.int bu, .ref qf, .ref ql])), (qf, .inl (cA, 14, .inl fi)), (ql, .inl (cA, 14, .inl la))] H0) : RO l yX3_toldOf wsX3_toldOf 4 96 [.ref qx, .int (nI j), .int (nI w)] D cA H0 (some (.int (tolV N al be to ph mn bu fi la j w))) := by
  refine RO_of (cc := cX3_toldOf) (maxL := 3) (ret := (some .int)) (by decide) rfl (Nat.le_of_ble_eq_true rfl) ?_
  intro p e s m below meth c ls hx hb hml hr hown hts hlk hH hK hl
  have hown : s.vm.findClass RX3 = some m.cls := hown
  have hl : lv_has ls 3 [(0, .ref qx), (1, .int (nI j)), (2, .int (nI w))] := hl
  have hinX0 : ∀ w ∈ wsX00, w ∈ wsX3_toldOf := by decide +kernel
  have hinX1 : ∀ w ∈ wsX10, w ∈ wsX3_toldOf := by decide +kernel
  have hinX2 : ∀ w ∈ wsX20, w ∈ wsX3_toldOf := by decide +kernel
  have hinX3 : ∀ w ∈ wsX30, w ∈ wsX3_toldOf := by decide +kernel
  refine lv_iload_n hx hb dX3_toldOf_0 rfl (lv_at hl 2 rfl) ?_
  rcases (show w = 0 ∨ w = 1 ∨ w = 2 ∨ w = 3 ∨ w = 4 ∨ w = 5 ∨ w = 6 ∨ w = 7 ∨ w = 8 by omega) with rfl | rfl | rfl | rfl | rfl | rfl | rfl | rfl | rfl
  · have hl : lv_has ls 3 [(0, .ref qx), (1, .int (nI j)), (2, .int (nI 0))] := hl
    refine lv_tableIn (tgt := 48) hx hb dX3_toldOf_1 (by decide) (by decide) rfl (by decide) ?_
    refine lv_aload_n hx hb dX3_toldOf_48 rfl (lv_at hl 0 rfl) ?_
    refine lv_aload_n hx hb dX3_toldOf_49 rfl (lv_at hl 0 rfl) ?_
    refine va_get (D := D) (ci := 3) (v := .ref qh) (C := RX3) (T := TX3) (N := 4) hx hb hts hinX3 hown hK.1 hP 0 rfl rfl 2 (by decide) (hts (.fieldLink RX3 26 "CairnShells" "hearths" "LCairnShells$Hearths;") (by decide +kernel)) (fun _ h9 => h9) rfl dX3_toldOf_50 ?_
    refine lv_iload_n hx hb dX3_toldOf_53 rfl (lv_at hl 1 rfl) ?_
    refine RO_go (va_runV (As := [.ref qh, .int (nI j)]) (rest := []) ⟨hx, hb, hml, hown, hts⟩ (c_X3_firstYear l (D := D) (cA := cA) (H0 := H0) (j := j) (hj := by omega) (hP := hP.sub (ws' := [(qx, .inr (3, [.ref qs, .ref qv, .ref qh, .ref qt])), (qs, .inr (2, [.int (nI N), .ref qal, .ref qbe, .ref qto, .ref qod, .ref qph])), (qal, .inl (cA, 14, .inl al)), (qbe, .inl (cA, 14, .inl be)), (qh, .inr (0, [.int bu, .ref qf, .ref ql])), (qf, .inl (cA, 14, .inl fi))]) [0, 1, 2, 3, 8, 9] rfl)) (cwV 2 hts gX3_toldOf_X3_firstYear rfl rfl rfl (by decide +kernel) ⟨Nat.le_of_ble_eq_true rfl, Nat.le_of_ble_eq_true rfl⟩) (cP_V hK (va_recv hK.1 hP (ci := 3) (q0 := 0) rfl rfl)) rfl rfl hl.1 rfl (lv_room (Nat.le_of_ble_eq_true rfl)) dX3_toldOf_54 ⟨by omega, by omega⟩) ?_
    exact RO_zret hx hb hr hlk hH dX3_toldOf_57 (by rfl) (by first | rfl | simp [tolV, bI])
  · have hl : lv_has ls 3 [(0, .ref qx), (1, .int (nI j)), (2, .int (nI 1))] := hl
    refine lv_tableIn (tgt := 58) hx hb dX3_toldOf_1 (by decide) (by decide) rfl (by decide) ?_
    refine lv_aload_n hx hb dX3_toldOf_58 rfl (lv_at hl 0 rfl) ?_
    refine lv_aload_n hx hb dX3_toldOf_59 rfl (lv_at hl 0 rfl) ?_
    refine va_get (D := D) (ci := 3) (v := .ref qh) (C := RX3) (T := TX3) (N := 4) hx hb hts hinX3 hown hK.1 hP 0 rfl rfl 2 (by decide) (hts (.fieldLink RX3 26 "CairnShells" "hearths" "LCairnShells$Hearths;") (by decide +kernel)) (fun _ h9 => h9) rfl dX3_toldOf_60 ?_
    refine lv_iload_n hx hb dX3_toldOf_63 rfl (lv_at hl 1 rfl) ?_
    refine RO_go (va_runV (As := [.ref qh, .int (nI j)]) (rest := []) ⟨hx, hb, hml, hown, hts⟩ (c_X3_lastYear l (D := D) (cA := cA) (H0 := H0) (j := j) (hj := by omega) (hP := hP.sub (ws' := [(qx, .inr (3, [.ref qs, .ref qv, .ref qh, .ref qt])), (qs, .inr (2, [.int (nI N), .ref qal, .ref qbe, .ref qto, .ref qod, .ref qph])), (qal, .inl (cA, 14, .inl al)), (qto, .inl (cA, 14, .inl to)), (qh, .inr (0, [.int bu, .ref qf, .ref ql])), (ql, .inl (cA, 14, .inl la))]) [0, 1, 2, 4, 8, 10] rfl)) (cwV 2 hts gX3_toldOf_X3_lastYear rfl rfl rfl (by decide +kernel) ⟨Nat.le_of_ble_eq_true rfl, Nat.le_of_ble_eq_true rfl⟩) (cP_V hK (va_recv hK.1 hP (ci := 3) (q0 := 0) rfl rfl)) rfl rfl hl.1 rfl (lv_room (Nat.le_of_ble_eq_true rfl)) dX3_toldOf_64 ⟨by omega, by omega⟩) ?_
    exact RO_zret hx hb hr hlk hH dX3_toldOf_67 (by rfl) (by first | rfl | simp [tolV, bI])
  · have hl : lv_has ls 3 [(0, .ref qx), (1, .int (nI j)), (2, .int (nI 2))] := hl
    refine lv_tableIn (tgt := 68) hx hb dX3_toldOf_1 (by decide) (by decide) rfl (by decide) ?_
    refine lv_aload_n hx hb dX3_toldOf_68 rfl (lv_at hl 0 rfl) ?_
    refine lv_aload_n hx hb dX3_toldOf_69 rfl (lv_at hl 0 rfl) ?_
    refine va_get (D := D) (ci := 3) (v := .ref qh) (C := RX3) (T := TX3) (N := 4) hx hb hts hinX3 hown hK.1 hP 0 rfl rfl 2 (by decide) (hts (.fieldLink RX3 26 "CairnShells" "hearths" "LCairnShells$Hearths;") (by decide +kernel)) (fun _ h9 => h9) rfl dX3_toldOf_70 ?_
    refine lv_iload_n hx hb dX3_toldOf_73 rfl (lv_at hl 1 rfl) ?_
    refine RO_go (va_runV (As := [.ref qh, .int (nI j)]) (rest := []) ⟨hx, hb, hml, hown, hts⟩ (c_X3_isDoubtful l (D := D) (cA := cA) (H0 := H0) (j := j) (hj := by omega) (hP := hP.sub (ws' := [(qx, .inr (3, [.ref qs, .ref qv, .ref qh, .ref qt])), (qs, .inr (2, [.int (nI N), .ref qal, .ref qbe, .ref qto, .ref qod, .ref qph])), (qal, .inl (cA, 14, .inl al)), (qbe, .inl (cA, 14, .inl be)), (qto, .inl (cA, 14, .inl to)), (qh, .inr (0, [.int bu, .ref qf, .ref ql])), (qf, .inl (cA, 14, .inl fi)), (ql, .inl (cA, 14, .inl la))]) [0, 1, 2, 3, 4, 8, 9, 10] rfl)) (cwV 2 hts gX3_toldOf_X3_isDoubtful rfl rfl rfl (by decide +kernel) ⟨Nat.le_of_ble_eq_true rfl, Nat.le_of_ble_eq_true rfl⟩) (cP_V hK (va_recv hK.1 hP (ci := 3) (q0 := 0) rfl rfl)) rfl rfl hl.1 rfl (lv_room (Nat.le_of_ble_eq_true rfl)) dX3_toldOf_74 ⟨by omega, by omega⟩) ?_
    refine my_ifeq_b (tgt := 84) hx hb dX3_toldOf_77 (by decide) (fun h1 => ?_) (fun h1 => ?_)
    · refine lv_iconst (v := 0) hx hb dX3_toldOf_84 (by decide) ?_
      exact RO_zret hx hb hr hlk hH dX3_toldOf_85 (by rfl) (by first | rfl | simp [tolV, bI, h1])
    · refine lv_iconst (v := 1) hx hb dX3_toldOf_80 (by decide) ?_
      refine lv_goto (tgt := 85) hx hb dX3_toldOf_81 (by decide) ?_
      exact RO_zret hx hb hr hlk hH dX3_toldOf_85 (by rfl) (by first | rfl | simp [tolV, bI, h1])
  · have hl : lv_has ls 3 [(0, .ref qx), (1, .int (nI j)), (2, .int (nI 3))] := hl
    refine lv_tableIn (tgt := 86) hx hb dX3_toldOf_1 (by decide) (by decide) rfl (by decide) ?_
    refine lv_aload_n hx hb dX3_toldOf_86 rfl (lv_at hl 0 rfl) ?_
    refine va_get (D := D) (ci := 3) (v := .ref qs) (C := RX3) (T := TX3) (N := 4) hx hb hts hinX3 hown hK.1 hP 0 rfl rfl 0 (by decide) (hts (.fieldLink RX3 10 "CairnShells" "strata" "LCairnShells$Strata;") (by decide +kernel)) (fun _ h9 => h9) rfl dX3_toldOf_87 ?_
    refine lv_iload_n hx hb dX3_toldOf_90 rfl (lv_at hl 1 rfl) ?_
    refine RO_go (va_runV (As := [.int (nI j)]) (rest := []) ⟨hx, hb, hml, hown, hts⟩ (c_X2_phase l (D := D) (cA := cA) (H0 := H0) (j := j) (hj := by omega) (hP := hP.sub (ws' := [(qs, .inr (2, [.int (nI N), .ref qal, .ref qbe, .ref qto, .ref qod, .ref qph])), (qph, .inl (cA, 14, .inl ph))]) [1, 5] rfl)) (cwV 1 hts gX3_toldOf_X2_phase rfl rfl rfl (by decide +kernel) ⟨Nat.le_of_ble_eq_true rfl, Nat.le_of_ble_eq_true rfl⟩) (cP_V hK (va_recv hK.1 hP (ci := 2) (q0 := 1) rfl rfl)) rfl rfl hl.1 rfl (lv_room (Nat.le_of_ble_eq_true rfl)) dX3_toldOf_91 ⟨by omega, by omega⟩) ?_
    exact RO_zret hx hb hr hlk hH dX3_toldOf_94 (by rfl) (by first | rfl | simp [tolV, bI])
  · have hl : lv_has ls 3 [(0, .ref qx), (1, .int (nI j)), (2, .int (nI 4))] := hl
    refine lv_tableIn (tgt := 95) hx hb dX3_toldOf_1 (by decide) (by decide) rfl (by decide) ?_
    refine lv_aload_n hx hb dX3_toldOf_95 rfl (lv_at hl 0 rfl) ?_
    refine va_get (D := D) (ci := 3) (v := .ref qs) (C := RX3) (T := TX3) (N := 4) hx hb hts hinX3 hown hK.1 hP 0 rfl rfl 0 (by decide) (hts (.fieldLink RX3 10 "CairnShells" "strata" "LCairnShells$Strata;") (by decide +kernel)) (fun _ h9 => h9) rfl dX3_toldOf_96 ?_
    refine lv_iload_n hx hb dX3_toldOf_99 rfl (lv_at hl 1 rfl) ?_
    refine RO_go (va_runV (As := [.int (nI j)]) (rest := []) ⟨hx, hb, hml, hown, hts⟩ (c_X2_below l (D := D) (cA := cA) (H0 := H0) (j := j) (hj := by omega) (hP := hP.sub (ws' := [(qs, .inr (2, [.int (nI N), .ref qal, .ref qbe, .ref qto, .ref qod, .ref qph])), (qbe, .inl (cA, 14, .inl be))]) [1, 3] rfl)) (cwV 1 hts gX3_toldOf_X2_below rfl rfl rfl (by decide +kernel) ⟨Nat.le_of_ble_eq_true rfl, Nat.le_of_ble_eq_true rfl⟩) (cP_V hK (va_recv hK.1 hP (ci := 2) (q0 := 1) rfl rfl)) rfl rfl hl.1 rfl (lv_room (Nat.le_of_ble_eq_true rfl)) dX3_toldOf_100 ⟨by omega, by omega⟩) ?_
    refine RO_go (va_runS (As := [.int (be j)]) (rest := []) ⟨hx, hb, hml, hown, hts⟩ (c_bc l (D := D) (cA := cA) (H0 := H0) (x := be j) (hs := by first | exact hsa j hj | exact hsb j hj | exact hst j hj)) (va_cwS 1 hts gX3_toldOf_J6_bitCount_0f7a4 rfl rfl rfl (by decide +kernel) ⟨Nat.le_of_ble_eq_true rfl, Nat.le_of_ble_eq_true rfl⟩) (cP_S hK) rfl rfl hl.1 rfl (lv_room (Nat.le_of_ble_eq_true rfl)) dX3_toldOf_103 ⟨by omega, by omega⟩) ?_
    exact RO_zret hx hb hr hlk hH dX3_toldOf_106 (by rfl) (by first | rfl | simp [tolV, bI])
  · have hl : lv_has ls 3 [(0, .ref qx), (1, .int (nI j)), (2, .int (nI 5))] := hl
    refine lv_tableIn (tgt := 107) hx hb dX3_toldOf_1 (by decide) (by decide) rfl (by decide) ?_
    refine lv_aload_n hx hb dX3_toldOf_107 rfl (lv_at hl 0 rfl) ?_
    refine va_get (D := D) (ci := 3) (v := .ref qs) (C := RX3) (T := TX3) (N := 4) hx hb hts hinX3 hown hK.1 hP 0 rfl rfl 0 (by decide) (hts (.fieldLink RX3 10 "CairnShells" "strata" "LCairnShells$Strata;") (by decide +kernel)) (fun _ h9 => h9) rfl dX3_toldOf_108 ?_
    refine lv_iload_n hx hb dX3_toldOf_111 rfl (lv_at hl 1 rfl) ?_
    refine RO_go (va_runV (As := [.int (nI j)]) (rest := []) ⟨hx, hb, hml, hown, hts⟩ (c_X2_onTop l (D := D) (cA := cA) (H0 := H0) (j := j) (hj := by omega) (hP := hP.sub (ws' := [(qs, .inr (2, [.int (nI N), .ref qal, .ref qbe, .ref qto, .ref qod, .ref qph])), (qto, .inl (cA, 14, .inl to))]) [1, 4] rfl)) (cwV 1 hts gX3_toldOf_X2_onTop rfl rfl rfl (by decide +kernel) ⟨Nat.le_of_ble_eq_true rfl, Nat.le_of_ble_eq_true rfl⟩) (cP_V hK (va_recv hK.1 hP (ci := 2) (q0 := 1) rfl rfl)) rfl rfl hl.1 rfl (lv_room (Nat.le_of_ble_eq_true rfl)) dX3_toldOf_112 ⟨by omega, by omega⟩) ?_
    refine RO_go (va_runS (As := [.int (to j)]) (rest := []) ⟨hx, hb, hml, hown, hts⟩ (c_bc l (D := D) (cA := cA) (H0 := H0) (x := to j) (hs := by first | exact hsa j hj | exact hsb j hj | exact hst j hj)) (va_cwS 1 hts gX3_toldOf_J6_bitCount_0f7a4 rfl rfl rfl (by decide +kernel) ⟨Nat.le_of_ble_eq_true rfl, Nat.le_of_ble_eq_true rfl⟩) (cP_S hK) rfl rfl hl.1 rfl (lv_room (Nat.le_of_ble_eq_true rfl)) dX3_toldOf_115 ⟨by omega, by omega⟩) ?_
    exact RO_zret hx hb hr hlk hH dX3_toldOf_118 (by rfl) (by first | rfl | simp [tolV, bI])
  · have hl : lv_has ls 3 [(0, .ref qx), (1, .int (nI j)), (2, .int (nI 6))] := hl
    refine lv_tableIn (tgt := 119) hx hb dX3_toldOf_1 (by decide) (by decide) rfl (by decide) ?_
    refine lv_aload_n hx hb dX3_toldOf_119 rfl (lv_at hl 0 rfl) ?_
    refine va_get (D := D) (ci := 3) (v := .ref qs) (C := RX3) (T := TX3) (N := 4) hx hb hts hinX3 hown hK.1 hP 0 rfl rfl 0 (by decide) (hts (.fieldLink RX3 10 "CairnShells" "strata" "LCairnShells$Strata;") (by decide +kernel)) (fun _ h9 => h9) rfl dX3_toldOf_120 ?_
    refine lv_iload_n hx hb dX3_toldOf_123 rfl (lv_at hl 1 rfl) ?_
    refine RO_go (va_runV (As := [.int (nI j)]) (rest := []) ⟨hx, hb, hml, hown, hts⟩ (c_X2_alike l (D := D) (cA := cA) (H0 := H0) (j := j) (hj := by omega) (hP := hP.sub (ws' := [(qs, .inr (2, [.int (nI N), .ref qal, .ref qbe, .ref qto, .ref qod, .ref qph])), (qal, .inl (cA, 14, .inl al))]) [1, 2] rfl)) (cwV 1 hts gX3_toldOf_X2_alike rfl rfl rfl (by decide +kernel) ⟨Nat.le_of_ble_eq_true rfl, Nat.le_of_ble_eq_true rfl⟩) (cP_V hK (va_recv hK.1 hP (ci := 2) (q0 := 1) rfl rfl)) rfl rfl hl.1 rfl (lv_room (Nat.le_of_ble_eq_true rfl)) dX3_toldOf_124 ⟨by omega, by omega⟩) ?_
    refine RO_go (va_runS (As := [.int (al j)]) (rest := []) ⟨hx, hb, hml, hown, hts⟩ (c_bc l (D := D) (cA := cA) (H0 := H0) (x := al j) (hs := by first | exact hsa j hj | exact hsb j hj | exact hst j hj)) (va_cwS 1 hts gX3_toldOf_J6_bitCount_0f7a4 rfl rfl rfl (by decide +kernel) ⟨Nat.le_of_ble_eq_true rfl, Nat.le_of_ble_eq_true rfl⟩) (cP_S hK) rfl rfl hl.1 rfl (lv_room (Nat.le_of_ble_eq_true rfl)) dX3_toldOf_127 ⟨by omega, by omega⟩) ?_
    exact RO_zret hx hb hr hlk hH dX3_toldOf_130 (by rfl) (by first | rfl | simp [tolV, bI])
  · have hl : lv_has ls 3 [(0, .ref qx), (1, .int (nI j)), (2, .int (nI 7))] := hl
    refine lv_tableIn (tgt := 131) hx hb dX3_toldOf_1 (by decide) (by decide) rfl (by decide) ?_
    refine lv_aload_n hx hb dX3_toldOf_131 rfl (lv_at hl 0 rfl) ?_
    refine lv_iload_n hx hb dX3_toldOf_132 rfl (lv_at hl 1 rfl) ?_
    refine RO_go (va_runV (As := [.int (nI j)]) (rest := []) ⟨hx, hb, hml, hown, hts⟩ (c_X3_season l (D := D) (cA := cA) (H0 := H0) (j := j) (hj := by omega) (hP := hP.sub (ws' := [(qx, .inr (3, [.ref qs, .ref qv, .ref qh, .ref qt])), (qs, .inr (2, [.int (nI N), .ref qal, .ref qbe, .ref qto, .ref qod, .ref qph])), (qal, .inl (cA, 14, .inl al)), (qv, .inr (1, [.ref qm])), (qm, .inl (cA, 56, .inl mn))]) [0, 1, 2, 6, 7] rfl)) (cwV 1 hts gX3_toldOf_X3_season rfl rfl rfl (by decide +kernel) ⟨Nat.le_of_ble_eq_true rfl, Nat.le_of_ble_eq_true rfl⟩) (cP_V hK (va_recv hK.1 hP (ci := 3) (q0 := 0) rfl rfl)) rfl rfl hl.1 rfl (lv_room (Nat.le_of_ble_eq_true rfl)) dX3_toldOf_133 ⟨by omega, by omega⟩) ?_
    exact RO_zret hx hb hr hlk hH dX3_toldOf_136 (by rfl) (by first | rfl | simp [tolV, bI])
  · have hl : lv_has ls 3 [(0, .ref qx), (1, .int (nI j)), (2, .int (nI 8))] := hl
    refine lv_tableOut (tgt := 137) hx hb dX3_toldOf_1 (by decide) (by decide) ?_
    refine lv_aload_n hx hb dX3_toldOf_137 rfl (lv_at hl 0 rfl) ?_
    refine va_get (D := D) (ci := 3) (v := .ref qh) (C := RX3) (T := TX3) (N := 4) hx hb hts hinX3 hown hK.1 hP 0 rfl rfl 2 (by decide) (hts (.fieldLink RX3 26 "CairnShells" "hearths" "LCairnShells$Hearths;") (by decide +kernel)) (fun _ h9 => h9) rfl dX3_toldOf_138 ?_
    refine lv_iload_n hx hb dX3_toldOf_141 rfl (lv_at hl 1 rfl) ?_
    refine RO_go (va_runV (As := [.int (nI j)]) (rest := []) ⟨hx, hb, hml, hown, hts⟩ (c_X0_isAt l (D := D) (cA := cA) (H0 := H0) (j := j) (hj := by omega) (hP := hP.sub (ws' := [(qh, .inr (0, [.int bu, .ref qf, .ref ql]))]) [8] rfl)) (cwV 1 hts gX3_toldOf_X0_isAt rfl rfl rfl (by decide +kernel) ⟨Nat.le_of_ble_eq_true rfl, Nat.le_of_ble_eq_true rfl⟩) (cP_V hK (va_recv hK.1 hP (ci := 0) (q0 := 8) rfl rfl)) rfl rfl hl.1 rfl (lv_room (Nat.le_of_ble_eq_true rfl)) dX3_toldOf_142 ⟨by omega, by omega⟩) ?_
    refine my_ifeq_b (tgt := 152) hx hb dX3_toldOf_145 (by decide) (fun h2 => ?_) (fun h2 => ?_)
    · refine lv_iconst (v := 0) hx hb dX3_toldOf_152 (by decide) ?_
      exact RO_zret hx hb hr hlk hH dX3_toldOf_153 (by rfl) (by first | rfl | simp [tolV, bI, h2])
    · refine lv_iconst (v := 1) hx hb dX3_toldOf_148 (by decide) ?_
      refine lv_goto (tgt := 153) hx hb dX3_toldOf_149 (by decide) ?_
      exact RO_zret hx hb hr hlk hH dX3_toldOf_153 (by rfl) (by first | rfl | simp [tolV, bI, h2])
set_option maxHeartbeats 4000000 in
set_option maxRecDepth 100000 in
theorem c_X3_counted (l : Launch) {D : va_G} {cA : ClassId} {H0 : Heap} {qx qs qv qh qt qal qbe qto qod qph N : Nat} {al be to ph : Nat → Int32} {qm : Nat} {mn : Nat → Int32} {qf ql : Nat} {bu : Int32} {fi la : Nat → Int32} (w : Nat) (hw : w < 7) (hN : N ≤ 14) (hsa : ∀ j, j < N → small (al j)) (hsb : ∀ j, j < N → small (be j)) (hst : ∀ j, j < N → small (to j)) (hsu : small bu) (hP : va_P D vwCl [(qx, .inr (3, [.ref qs, .ref qv, .ref qh, .ref qt])), (qs, .inr (2, [.int (nI N), .ref qal, .ref qbe, .ref qto, .ref qod, .ref qph])), (qal, .inl (cA, 14, .inl al)), (qbe, .inl (cA, 14, .inl be)), (qto, .inl (cA, 14, .inl to)), (qph, .inl (cA, 14, .inl ph)), (qv, .inr (1, [.ref qm])), (qm, .inl (cA, 56, .inl mn)), (qh, .inr (0, [.int bu, .ref qf, .ref ql])), (qf, .inl (cA, 14, .inl fi)), (ql, .inl (cA, 14, .inl la))] H0) : RO l yX3_counted wsX3_counted 5 111 [.ref qx, .int (nI w)] D cA H0 (some (.int (couV N al be to ph mn bu fi la w))) := by
  refine RO_of (cc := cX3_counted) (maxL := 2) (ret := (some .int)) (by decide) rfl (Nat.le_of_ble_eq_true rfl) ?_
  intro p e s m below meth c ls hx hb hml hr hown hts hlk hH hK hl
  have hown : s.vm.findClass RX3 = some m.cls := hown
  have hl : lv_has ls 2 [(0, .ref qx), (1, .int (nI w))] := hl
  have hinX0 : ∀ w ∈ wsX00, w ∈ wsX3_counted := by decide +kernel
  have hinX1 : ∀ w ∈ wsX10, w ∈ wsX3_counted := by decide +kernel
  have hinX2 : ∀ w ∈ wsX20, w ∈ wsX3_counted := by decide +kernel
  have hinX3 : ∀ w ∈ wsX30, w ∈ wsX3_counted := by decide +kernel
  refine lv_iload_n hx hb dX3_counted_0 rfl (lv_at hl 1 rfl) ?_
  rcases (show w = 0 ∨ w = 1 ∨ w = 2 ∨ w = 3 ∨ w = 4 ∨ w = 5 ∨ w = 6 by omega) with rfl | rfl | rfl | rfl | rfl | rfl | rfl
  · have hl : lv_has ls 2 [(0, .ref qx), (1, .int (nI 0))] := hl
    refine lv_tableIn (tgt := 40) hx hb dX3_counted_1 (by decide) (by decide) rfl (by decide) ?_
    refine lv_aload_n hx hb dX3_counted_40 rfl (lv_at hl 0 rfl) ?_
    refine va_get (D := D) (ci := 3) (v := .ref qs) (C := RX3) (T := TX3) (N := 4) hx hb hts hinX3 hown hK.1 hP 0 rfl rfl 0 (by decide) (hts (.fieldLink RX3 10 "CairnShells" "strata" "LCairnShells$Strata;") (by decide +kernel)) (fun _ h9 => h9) rfl dX3_counted_41 ?_
    refine RO_go (va_runV (As := []) (rest := []) ⟨hx, hb, hml, hown, hts⟩ (c_X2_size l (D := D) (cA := cA) (H0 := H0)  (hP := hP.sub (ws' := [(qs, .inr (2, [.int (nI N), .ref qal, .ref qbe, .ref qto, .ref qod, .ref qph]))]) [1] rfl)) (cwV 0 hts gX3_counted_X2_size rfl rfl rfl (by decide +kernel) ⟨Nat.le_of_ble_eq_true rfl, Nat.le_of_ble_eq_true rfl⟩) (cP_V hK (va_recv hK.1 hP (ci := 2) (q0 := 1) rfl rfl)) rfl rfl hl.1 rfl (lv_room (Nat.le_of_ble_eq_true rfl)) dX3_counted_44 ⟨by omega, by omega⟩) ?_
    exact RO_zret hx hb hr hlk hH dX3_counted_47 (by rfl) rfl
  · have hl : lv_has ls 2 [(0, .ref qx), (1, .int (nI 1))] := hl
    refine lv_tableIn (tgt := 48) hx hb dX3_counted_1 (by decide) (by decide) rfl (by decide) ?_
    refine lv_aload_n hx hb dX3_counted_48 rfl (lv_at hl 0 rfl) ?_
    refine va_get (D := D) (ci := 3) (v := .ref qs) (C := RX3) (T := TX3) (N := 4) hx hb hts hinX3 hown hK.1 hP 0 rfl rfl 0 (by decide) (hts (.fieldLink RX3 10 "CairnShells" "strata" "LCairnShells$Strata;") (by decide +kernel)) (fun _ h9 => h9) rfl dX3_counted_49 ?_
    refine RO_go (va_runV (As := []) (rest := []) ⟨hx, hb, hml, hown, hts⟩ (c_X2_phases l (D := D) (cA := cA) (H0 := H0) (hN := by omega) (hP := hP.sub (ws' := [(qs, .inr (2, [.int (nI N), .ref qal, .ref qbe, .ref qto, .ref qod, .ref qph])), (qph, .inl (cA, 14, .inl ph))]) [1, 5] rfl)) (cwV 0 hts gX3_counted_X2_phases rfl rfl rfl (by decide +kernel) ⟨Nat.le_of_ble_eq_true rfl, Nat.le_of_ble_eq_true rfl⟩) (cP_V hK (va_recv hK.1 hP (ci := 2) (q0 := 1) rfl rfl)) rfl rfl hl.1 rfl (lv_room (Nat.le_of_ble_eq_true rfl)) dX3_counted_52 ⟨by omega, by omega⟩) ?_
    exact RO_zret hx hb hr hlk hH dX3_counted_55 (by rfl) rfl
  · have hl : lv_has ls 2 [(0, .ref qx), (1, .int (nI 2))] := hl
    refine lv_tableIn (tgt := 56) hx hb dX3_counted_1 (by decide) (by decide) rfl (by decide) ?_
    refine lv_aload_n hx hb dX3_counted_56 rfl (lv_at hl 0 rfl) ?_
    refine lv_aload_n hx hb dX3_counted_57 rfl (lv_at hl 0 rfl) ?_
    refine va_get (D := D) (ci := 3) (v := .ref qh) (C := RX3) (T := TX3) (N := 4) hx hb hts hinX3 hown hK.1 hP 0 rfl rfl 2 (by decide) (hts (.fieldLink RX3 26 "CairnShells" "hearths" "LCairnShells$Hearths;") (by decide +kernel)) (fun _ h9 => h9) rfl dX3_counted_58 ?_
    refine RO_go (va_runV (As := [.ref qh]) (rest := []) ⟨hx, hb, hml, hown, hts⟩ (c_X3_doubtfulLayers l (D := D) (cA := cA) (H0 := H0) (hN := by omega) (hP := hP.sub (ws' := [(qx, .inr (3, [.ref qs, .ref qv, .ref qh, .ref qt])), (qs, .inr (2, [.int (nI N), .ref qal, .ref qbe, .ref qto, .ref qod, .ref qph])), (qal, .inl (cA, 14, .inl al)), (qbe, .inl (cA, 14, .inl be)), (qto, .inl (cA, 14, .inl to)), (qh, .inr (0, [.int bu, .ref qf, .ref ql])), (qf, .inl (cA, 14, .inl fi)), (ql, .inl (cA, 14, .inl la))]) [0, 1, 2, 3, 4, 8, 9, 10] rfl)) (cwV 1 hts gX3_counted_X3_doubtfulLayers rfl rfl rfl (by decide +kernel) ⟨Nat.le_of_ble_eq_true rfl, Nat.le_of_ble_eq_true rfl⟩) (cP_V hK (va_recv hK.1 hP (ci := 3) (q0 := 0) rfl rfl)) rfl rfl hl.1 rfl (lv_room (Nat.le_of_ble_eq_true rfl)) dX3_counted_61 ⟨by omega, by omega⟩) ?_
    exact RO_zret hx hb hr hlk hH dX3_counted_64 (by rfl) rfl
  · have hl : lv_has ls 2 [(0, .ref qx), (1, .int (nI 3))] := hl
    refine lv_tableIn (tgt := 65) hx hb dX3_counted_1 (by decide) (by decide) rfl (by decide) ?_
    refine lv_aload_n hx hb dX3_counted_65 rfl (lv_at hl 0 rfl) ?_
    refine va_get (D := D) (ci := 3) (v := .ref qh) (C := RX3) (T := TX3) (N := 4) hx hb hts hinX3 hown hK.1 hP 0 rfl rfl 2 (by decide) (hts (.fieldLink RX3 26 "CairnShells" "hearths" "LCairnShells$Hearths;") (by decide +kernel)) (fun _ h9 => h9) rfl dX3_counted_66 ?_
    refine RO_go (va_runV (As := []) (rest := []) ⟨hx, hb, hml, hown, hts⟩ (c_X0_size l (D := D) (cA := cA) (H0 := H0) (hs := by assumption) (hP := hP.sub (ws' := [(qh, .inr (0, [.int bu, .ref qf, .ref ql]))]) [8] rfl)) (cwV 0 hts gX3_counted_X0_size rfl rfl rfl (by decide +kernel) ⟨Nat.le_of_ble_eq_true rfl, Nat.le_of_ble_eq_true rfl⟩) (cP_V hK (va_recv hK.1 hP (ci := 0) (q0 := 8) rfl rfl)) rfl rfl hl.1 rfl (lv_room (Nat.le_of_ble_eq_true rfl)) dX3_counted_69 ⟨by omega, by omega⟩) ?_
    exact RO_zret hx hb hr hlk hH dX3_counted_72 (by rfl) rfl
  · have hl : lv_has ls 2 [(0, .ref qx), (1, .int (nI 4))] := hl
    refine lv_tableIn (tgt := 73) hx hb dX3_counted_1 (by decide) (by decide) rfl (by decide) ?_
    refine lv_aload_n hx hb dX3_counted_73 rfl (lv_at hl 0 rfl) ?_
    refine va_get (D := D) (ci := 3) (v := .ref qs) (C := RX3) (T := TX3) (N := 4) hx hb hts hinX3 hown hK.1 hP 0 rfl rfl 0 (by decide) (hts (.fieldLink RX3 10 "CairnShells" "strata" "LCairnShells$Strata;") (by decide +kernel)) (fun _ h9 => h9) rfl dX3_counted_74 ?_
    refine RO_go (va_runV (As := []) (rest := []) ⟨hx, hb, hml, hown, hts⟩ (c_X2_pairs l (D := D) (cA := cA) (H0 := H0) (hN := by omega) (hsm := hsb) (hP := hP.sub (ws' := [(qs, .inr (2, [.int (nI N), .ref qal, .ref qbe, .ref qto, .ref qod, .ref qph])), (qbe, .inl (cA, 14, .inl be))]) [1, 3] rfl)) (cwV 0 hts gX3_counted_X2_pairs rfl rfl rfl (by decide +kernel) ⟨Nat.le_of_ble_eq_true rfl, Nat.le_of_ble_eq_true rfl⟩) (cP_V hK (va_recv hK.1 hP (ci := 2) (q0 := 1) rfl rfl)) rfl rfl hl.1 rfl (lv_room (Nat.le_of_ble_eq_true rfl)) dX3_counted_77 ⟨by omega, by omega⟩) ?_
    exact RO_zret hx hb hr hlk hH dX3_counted_80 (by rfl) rfl
  · have hl : lv_has ls 2 [(0, .ref qx), (1, .int (nI 5))] := hl
    refine lv_tableIn (tgt := 81) hx hb dX3_counted_1 (by decide) (by decide) rfl (by decide) ?_
    refine lv_aload_n hx hb dX3_counted_81 rfl (lv_at hl 0 rfl) ?_
    refine va_get (D := D) (ci := 3) (v := .ref qs) (C := RX3) (T := TX3) (N := 4) hx hb hts hinX3 hown hK.1 hP 0 rfl rfl 0 (by decide) (hts (.fieldLink RX3 10 "CairnShells" "strata" "LCairnShells$Strata;") (by decide +kernel)) (fun _ h9 => h9) rfl dX3_counted_82 ?_
    refine RO_go (va_runV (As := []) (rest := []) ⟨hx, hb, hml, hown, hts⟩ (c_X2_sorts l (D := D) (cA := cA) (H0 := H0) (hN := by omega) (hP := hP.sub (ws' := [(qs, .inr (2, [.int (nI N), .ref qal, .ref qbe, .ref qto, .ref qod, .ref qph])), (qal, .inl (cA, 14, .inl al))]) [1, 2] rfl)) (cwV 0 hts gX3_counted_X2_sorts rfl rfl rfl (by decide +kernel) ⟨Nat.le_of_ble_eq_true rfl, Nat.le_of_ble_eq_true rfl⟩) (cP_V hK (va_recv hK.1 hP (ci := 2) (q0 := 1) rfl rfl)) rfl rfl hl.1 rfl (lv_room (Nat.le_of_ble_eq_true rfl)) dX3_counted_85 ⟨by omega, by omega⟩) ?_
    exact RO_zret hx hb hr hlk hH dX3_counted_88 (by rfl) rfl
  · have hl : lv_has ls 2 [(0, .ref qx), (1, .int (nI 6))] := hl
    refine lv_tableOut (tgt := 89) hx hb dX3_counted_1 (by decide) (by decide) ?_
    refine lv_aload_n hx hb dX3_counted_89 rfl (lv_at hl 0 rfl) ?_
    refine va_get (D := D) (ci := 3) (v := .ref qv) (C := RX3) (T := TX3) (N := 4) hx hb hts hinX3 hown hK.1 hP 0 rfl rfl 1 (by decide) (hts (.fieldLink RX3 19 "CairnShells" "sieve" "LCairnShells$Sieve;") (by decide +kernel)) (fun _ h9 => h9) rfl dX3_counted_90 ?_
    refine RO_go (va_runV (As := []) (rest := []) ⟨hx, hb, hml, hown, hts⟩ (c_X1_all l (D := D) (cA := cA) (H0 := H0)  (hP := hP.sub (ws' := [(qv, .inr (1, [.ref qm])), (qm, .inl (cA, 56, .inl mn))]) [6, 7] rfl)) (cwV 0 hts gX3_counted_X1_all rfl rfl rfl (by decide +kernel) ⟨Nat.le_of_ble_eq_true rfl, Nat.le_of_ble_eq_true rfl⟩) (cP_V hK (va_recv hK.1 hP (ci := 1) (q0 := 6) rfl rfl)) rfl rfl hl.1 rfl (lv_room (Nat.le_of_ble_eq_true rfl)) dX3_counted_93 ⟨by omega, by omega⟩) ?_
    exact RO_zret hx hb hr hlk hH dX3_counted_96 (by rfl) rfl
set_option maxHeartbeats 4000000 in
set_option maxRecDepth 100000 in
theorem c_X3_mean (l : Launch) {D : va_G} {cA : ClassId} {H0 : Heap} {qx qs qv qh qt qal qbe qto qod qph N : Nat} {ph : Nat → Int32}  (hN : N ≤ 14) (hP : va_P D vwCl [(qx, .inr (3, [.ref qs, .ref qv, .ref qh, .ref qt])), (qs, .inr (2, [.int (nI N), .ref qal, .ref qbe, .ref qto, .ref qod, .ref qph])), (qph, .inl (cA, 14, .inl ph))] H0) : RO l yX3_mean wsX3_mean 1 21 [.ref qx] D cA H0 (some (.double (meanV N ph))) := by
  refine RO_of (cc := cX3_mean) (maxL := 4) (ret := (some .double)) (by decide) rfl (Nat.le_of_ble_eq_true rfl) ?_
  intro p e s m below meth c ls hx hb hml hr hown hts hlk hH hK hl
  have hown : s.vm.findClass RX3 = some m.cls := hown
  have hl : lv_has ls 4 [(0, .ref qx)] := hl
  have hinX2 : ∀ w ∈ wsX20, w ∈ wsX3_mean := by decide +kernel
  have hinX3 : ∀ w ∈ wsX30, w ∈ wsX3_mean := by decide +kernel
  refine lv_aload_n hx hb dX3_mean_0 rfl (lv_at hl 0 rfl) ?_
  refine va_get (D := D) (ci := 3) (v := .ref qs) (C := RX3) (T := TX3) (N := 4) hx hb hts hinX3 hown hK.1 hP 0 rfl rfl 0 (by decide) (hts (.fieldLink RX3 10 "CairnShells" "strata" "LCairnShells$Strata;") (by decide +kernel)) (fun _ h9 => h9) rfl dX3_mean_1 ?_
  refine RO_go (va_runV (As := []) (rest := []) ⟨hx, hb, hml, hown, hts⟩ (c_X2_size l (D := D) (cA := cA) (H0 := H0)  (hP := hP.sub (ws' := [(qs, .inr (2, [.int (nI N), .ref qal, .ref qbe, .ref qto, .ref qod, .ref qph]))]) [1] rfl)) (cwV 0 hts gX3_mean_X2_size rfl rfl rfl (by decide +kernel) ⟨Nat.le_of_ble_eq_true rfl, Nat.le_of_ble_eq_true rfl⟩) (cP_V hK (va_recv hK.1 hP (ci := 2) (q0 := 1) rfl rfl)) rfl rfl hl.1 rfl (lv_room (Nat.le_of_ble_eq_true rfl)) dX3_mean_4 ⟨by omega, by omega⟩) ?_
  refine lv_istore_n (lv' := [(1, .int (nI N)), (0, .ref qx)]) hx hb dX3_mean_7 rfl hl (by decide) rfl (fun ls hl => ?_)
  refine lv_iload_n hx hb dX3_mean_8 rfl (lv_at hl 0 rfl) ?_
  refine lv_if_ne (tgt := 14) hx hb dX3_mean_9 (by decide) (fun h1 => ?_) (fun h1 => ?_)
  · refine lv_iconst (v := 0) hx hb dX3_mean_14 (by decide) ?_
    refine lv_istore_n (lv' := [(2, .int 0), (1, .int (nI N)), (0, .ref qx)]) hx hb dX3_mean_15 rfl hl (by decide) rfl (fun ls hl => ?_)
    refine lv_iconst (v := 0) hx hb dX3_mean_16 (by decide) ?_
    refine lv_istore_n (lv' := [(3, .int 0), (2, .int 0), (1, .int (nI N)), (0, .ref qx)]) hx hb dX3_mean_17 rfl hl (by decide) rfl (fun ls hl => ?_)
    suffices loop : ∀ (n k : Nat) (y : Int32), k ≤ N → N < k + n → y = sI ph k → ∀ ls, lv_has ls 4 [(3, .int (nI k)), (2, .int y), (1, .int (nI N)), (0, .ref qx)] → W p l e { frames := 1, cells := 0, slots := 0, locals := 21 } s m ([.ref qx] : List Value).toArray below meth c H0 [] 0 0 (MQ below (roQ (some (.double (meanV N ph))) H0) ([.ref qx] : List Value).toArray s 0 0 (fun _ => False)) (F0 m 18 ls []) from loop (N + 1) 0 0 (by omega) (by omega) (by first | rfl | (simp [sI]; done) | (simp [sI]; done)) _ (lv_sub hl [0, 1, 2, 3] rfl)
    intro n
    induction n with
    | zero => intro k y hk1 hk2; exact absurd hk2 (by omega)
    | succ n ih18 =>
      intro k y hk18 hn18 ey ls hl
      refine lv_iload_n hx hb dX3_mean_18 rfl (lv_at hl 0 rfl) ?_
      refine lv_iload_n hx hb dX3_mean_19 rfl (lv_at hl 2 rfl) ?_
      refine my_geN (x := k) (y := N) (tgt := 40) hx hb dX3_mean_20 (by decide) (by omega) (by omega) (fun h2 => ?_) (fun h2 => ?_)
      · obtain rfl : N = k := by omega
        subst ey
        refine lv_iload_n hx hb dX3_mean_40 rfl (lv_at hl 1 rfl) ?_
        refine lv_i2d hx hb dX3_mean_41 ?_
        refine lv_iload_n hx hb dX3_mean_42 rfl (lv_at hl 2 rfl) ?_
        refine lv_i2d hx hb dX3_mean_43 ?_
        refine lv_ddiv hx hb dX3_mean_44 (nonan _ h1) ?_
        exact RO_dret hx hb hr hlk hH dX3_mean_45 (by first | rfl | simp [meanV, h1, h2])
      · refine lv_iload_n hx hb dX3_mean_23 rfl (lv_at hl 1 rfl) ?_
        refine lv_aload_n hx hb dX3_mean_24 rfl (lv_at hl 3 rfl) ?_
        refine va_get (D := D) (ci := 3) (v := .ref qs) (C := RX3) (T := TX3) (N := 4) hx hb hts hinX3 hown hK.1 hP 0 rfl rfl 0 (by decide) (hts (.fieldLink RX3 10 "CairnShells" "strata" "LCairnShells$Strata;") (by decide +kernel)) (fun _ h9 => h9) rfl dX3_mean_25 ?_
        refine lv_iload_n hx hb dX3_mean_28 rfl (lv_at hl 0 rfl) ?_
        refine RO_go (va_runV (As := [.int (nI k)]) (rest := [.int y]) ⟨hx, hb, hml, hown, hts⟩ (c_X2_phase l (D := D) (cA := cA) (H0 := H0) (j := k) (hj := by omega) (hP := hP.sub (ws' := [(qs, .inr (2, [.int (nI N), .ref qal, .ref qbe, .ref qto, .ref qod, .ref qph])), (qph, .inl (cA, 14, .inl ph))]) [1, 2] rfl)) (cwV 1 hts gX3_mean_X2_phase rfl rfl rfl (by decide +kernel) ⟨Nat.le_of_ble_eq_true rfl, Nat.le_of_ble_eq_true rfl⟩) (cP_V hK (va_recv hK.1 hP (ci := 2) (q0 := 1) rfl rfl)) rfl rfl hl.1 rfl (lv_room (Nat.le_of_ble_eq_true rfl)) dX3_mean_29 ⟨by omega, by omega⟩) ?_
        refine lv_iadd hx hb dX3_mean_32 ?_
        refine lv_istore_n (lv' := [(2, .int (y + (ph k))), (3, .int (nI k)), (1, .int (nI N)), (0, .ref qx)]) hx hb dX3_mean_33 rfl hl (by decide) rfl (fun ls hl => ?_)
        refine lv_iinc (v := nI (k + 1)) (x := nI k) (lv' := [(3, .int (nI (k + 1))), (2, .int (y + (ph k))), (1, .int (nI N)), (0, .ref qx)]) hx hb dX3_mean_34 hl (k := 1) rfl (nI_1 k) (by decide) rfl (fun ls hl => ?_)
        refine lv_goto (tgt := 18) hx hb dX3_mean_37 (by decide) ?_
        exact ih18 (k + 1) (y + (ph k)) (by omega) (by omega) (by subst ey; first | rfl | simp [meanV, sI, h1, h2]) _ (lv_sub hl [0, 1, 2, 3] rfl)
  · refine lv_dconst0 hx hb dX3_mean_12 ?_
    exact RO_dret hx hb hr hlk hH dX3_mean_13 (by first | rfl | simp [meanV, h1])
