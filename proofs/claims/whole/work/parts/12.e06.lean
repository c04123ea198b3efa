set_option maxHeartbeats 4000000 in
set_option maxRecDepth 100000 in
theorem c_X4_later (l : Launch) {D : va_G} {cA : ClassId} {H0 : Heap} {qy qya qyb qyc qyd qye N : Nat} {th : Int32} {al be mn fr tt : Nat → Int32} (a : Int32) (b : Int32) (hN : N ≤ 14) (hP : va_P D vwCl [(qy, .inr (4, [.int th, .int (nI N), .ref qya, .ref qyb, .ref qyc, .ref qyd, .ref qye])), (qya, .inl (cA, 14, .inl al)), (qyb, .inl (cA, 14, .inl be)), (qyc, .inl (cA, 56, .inl mn)), (qyd, .inl (cA, 14, .inl fr)), (qye, .inl (cA, 14, .inl tt))] H0) (hD0 : va_D (fun _ => True) [(qy, .inr (4, [.int th, .int (nI N), .ref qya, .ref qyb, .ref qyc, .ref qyd, .ref qye])), (qya, .inl (cA, 14, .inl al)), (qyb, .inl (cA, 14, .inl be)), (qyc, .inl (cA, 56, .inl mn)), (qyd, .inl (cA, 14, .inl fr)), (qye, .inl (cA, 14, .inl tt))]) : RQ l yX4_later wsX4_later 2 43 0 0 [.ref qy, .int a, .int b] D cA H0 [(qy, .inr (4, [.int th, .int (nI N), .ref qya, .ref qyb, .ref qyc, .ref qyd, .ref qye])), (qya, .inl (cA, 14, .inl al)), (qyb, .inl (cA, 14, .inl be)), (qyc, .inl (cA, 56, .inl mn)), (qyd, .inl (cA, 14, .inl fr)), (qye, .inl (cA, 14, .inl tt))] (fun v W1 => (¬ (isL a N ∧ isL b N) ∧ v = some (.int 0) ∧ W1 = wMo cA qy qya qyb qyc qyd qye 1 N al be mn fr tt) ∨ (∃ i j : Nat, i < N ∧ j < N ∧ a = nI i ∧ b = nI j ∧ v = some (.int (bI (bt (be i) j))) ∧ W1 = wMo cA qy qya qyb qyc qyd qye 0 N al be mn fr tt)) := by
  refine RQ_of (cc := cX4_later) (maxL := 3) (ret := (some .boolean)) (by decide) rfl (Nat.le_of_ble_eq_true rfl) ?_
  intro p e s m below meth c ls hx hb hml hr hown hts hlk hin2 hH hK hl
  have hown : s.vm.findClass RX4 = some m.cls := hown
  have hl : lv_has ls 3 [(0, .ref qy), (1, .int a), (2, .int b)] := hl
  have hinX4 : ∀ w ∈ wsX40, w ∈ wsX4_later := by decide +kernel
  have hD := hD0.self (sz := H0.size)
  obtain ⟨A, hAe⟩ : ∃ A, A = va_A [(qy, .inr (4, [.int th, .int (nI N), .ref qya, .ref qyb, .ref qyc, .ref qyd, .ref qye])), (qya, .inl (cA, 14, .inl al)), (qyb, .inl (cA, 14, .inl be)), (qyc, .inl (cA, 56, .inl mn)), (qyd, .inl (cA, 14, .inl fr)), (qye, .inl (cA, 14, .inl tt))] H0.size := ⟨_, rfl⟩
  rw [← hAe] at hD ⊢
  have hA : ∀ q : Nat, H0.size ≤ q → A q := fun q h => by rw [hAe]; exact Or.inr h
  have hS : va_S A H0 H0 [] := va_S.rf
  refine lv_aload_n hx hb dX4_later_0 rfl (lv_at hl 0 rfl) ?_
  refine lv_aload_n hx hb dX4_later_1 rfl (lv_at hl 0 rfl) ?_
  refine lv_iload_n hx hb dX4_later_2 rfl (lv_at hl 1 rfl) ?_
  refine RO_go (va_runV (As := [.int a]) (rest := [.ref qy]) ⟨hx, hb, hml, hown, hts⟩ (c_X4_isLayer l (D := D) (cA := cA) (H0 := H0) (v := a) (hP := hP.sub (ws' := [(qy, .inr (4, [.int th, .int (nI N), .ref qya, .ref qyb, .ref qyc, .ref qyd, .ref qye]))]) [0] rfl)) (cwV 1 hts gX4_later_X4_isLayer rfl rfl rfl (by decide +kernel) ⟨Nat.le_of_ble_eq_true rfl, Nat.le_of_ble_eq_true rfl⟩) (cP_V hK (va_recv hK.1 hP (ci := 4) (q0 := 0) rfl rfl)) rfl rfl hl.1 rfl (lv_room (Nat.le_of_ble_eq_true rfl)) dX4_later_3 ⟨by omega, by omega⟩) ?_
  refine my_ifeq_b (tgt := 21) hx hb dX4_later_6 (by decide) (fun h1 => ?_) (fun h1 => ?_)
  · refine lv_iconst (v := 1) hx hb dX4_later_21 (by decide) ?_
    refine va_put (D := D) (ci := 4) (v := .int 1) (ty := .int) (C := RX4) (T := TX4) (N := 7) hx hb hts hinX4 tyX4 tyX4_ok nmX4 hown hK.1 hP hD hS 0 rfl rfl 0 (by decide) (hts (.fieldLink RX4 25 "CairnShellsModel" "thrown" "I") (by decide +kernel)) (fun _ h9 => h9) rfl (by decide +kernel) rfl rfl (Nat.le_of_ble_eq_true rfl) dX4_later_22 (fun H locs hP hD hS => ?_)
    have hP : va_P D vwCl [(qy, .inr (4, [.int 1, .int (nI N), .ref qya, .ref qyb, .ref qyc, .ref qyd, .ref qye])), (qya, .inl (cA, 14, .inl al)), (qyb, .inl (cA, 14, .inl be)), (qyc, .inl (cA, 56, .inl mn)), (qyd, .inl (cA, 14, .inl fr)), (qye, .inl (cA, 14, .inl tt))] H := hP
    have hD : va_D A [(qy, .inr (4, [.int 1, .int (nI N), .ref qya, .ref qyb, .ref qyc, .ref qyd, .ref qye])), (qya, .inl (cA, 14, .inl al)), (qyb, .inl (cA, 14, .inl be)), (qyc, .inl (cA, 56, .inl mn)), (qyd, .inl (cA, 14, .inl fr)), (qye, .inl (cA, 14, .inl tt))] := hD
    refine lv_aload_n hx hb dX4_later_25 rfl (lv_at hl 0 rfl) ?_
    refine va_get (D := D) (ci := 4) (v := .int 1) (C := RX4) (T := TX4) (N := 7) hx hb hts hinX4 hown hK.1 hP 0 rfl rfl 0 (by decide) (hts (.fieldLink RX4 25 "CairnShellsModel" "thrown" "I") (by decide +kernel)) (fun _ h9 => h9) rfl dX4_later_26 ?_
    refine lv_if_ne (tgt := 49) hx hb dX4_later_29 (by decide) (fun h2 => ?_) (fun h2 => ?_)
    rotate_left
    · exact absurd h2 (by decide)
    refine lv_iconst (v := 0) hx hb dX4_later_49 (by decide) ?_
    exact RQ_zret (W1 := [(qy, .inr (4, [.int 1, .int (nI N), .ref qya, .ref qyb, .ref qyc, .ref qyd, .ref qye])), (qya, .inl (cA, 14, .inl al)), (qyb, .inl (cA, 14, .inl be)), (qyc, .inl (cA, 56, .inl mn)), (qyd, .inl (cA, 14, .inl fr)), (qye, .inl (cA, 14, .inl tt))]) hAe hx hb hr hlk hH dX4_later_50 (by omega) (by omega) (Or.inl ⟨fun q => isn_f (by omega) h1 q.1, rfl, rfl⟩) (hP.sub [0, 1, 2, 3, 4, 5] rfl) (hD.sub [0, 1, 2, 3, 4, 5] (by decide) rfl) hS (by decide)
  · obtain ⟨i, hi9, hia⟩ := isn_t (by omega) h1
    have hl : lv_has ls 3 [(0, .ref qy), (1, .int (nI i)), (2, .int b)] := by rw [← hia]; exact hl
    refine lv_aload_n hx hb dX4_later_9 rfl (lv_at hl 0 rfl) ?_
    refine lv_iload_n hx hb dX4_later_10 rfl (lv_at hl 2 rfl) ?_
    refine RO_go (va_runV (As := [.int b]) (rest := [.ref qy]) ⟨hx, hb, hml, hown, hts⟩ (c_X4_isLayer l (D := D) (cA := cA) (H0 := H0) (v := b) (hP := hP.sub (ws' := [(qy, .inr (4, [.int th, .int (nI N), .ref qya, .ref qyb, .ref qyc, .ref qyd, .ref qye]))]) [0] rfl)) (cwV 1 hts gX4_later_X4_isLayer rfl rfl rfl (by decide +kernel) ⟨Nat.le_of_ble_eq_true rfl, Nat.le_of_ble_eq_true rfl⟩) (cP_V hK (va_recv hK.1 hP (ci := 4) (q0 := 0) rfl rfl)) rfl rfl hl.1 rfl (lv_room (Nat.le_of_ble_eq_true rfl)) dX4_later_11 ⟨by omega, by omega⟩) ?_
    refine my_ifeq_b (tgt := 21) hx hb dX4_later_14 (by decide) (fun h3 => ?_) (fun h3 => ?_)
    · refine lv_iconst (v := 1) hx hb dX4_later_21 (by decide) ?_
      refine va_put (D := D) (ci := 4) (v := .int 1) (ty := .int) (C := RX4) (T := TX4) (N := 7) hx hb hts hinX4 tyX4 tyX4_ok nmX4 hown hK.1 hP hD hS 0 rfl rfl 0 (by decide) (hts (.fieldLink RX4 25 "CairnShellsModel" "thrown" "I") (by decide +kernel)) (fun _ h9 => h9) rfl (by decide +kernel) rfl rfl (Nat.le_of_ble_eq_true rfl) dX4_later_22 (fun H locs hP hD hS => ?_)
      have hP : va_P D vwCl [(qy, .inr (4, [.int 1, .int (nI N), .ref qya, .ref qyb, .ref qyc, .ref qyd, .ref qye])), (qya, .inl (cA, 14, .inl al)), (qyb, .inl (cA, 14, .inl be)), (qyc, .inl (cA, 56, .inl mn)), (qyd, .inl (cA, 14, .inl fr)), (qye, .inl (cA, 14, .inl tt))] H := hP
      have hD : va_D A [(qy, .inr (4, [.int 1, .int (nI N), .ref qya, .ref qyb, .ref qyc, .ref qyd, .ref qye])), (qya, .inl (cA, 14, .inl al)), (qyb, .inl (cA, 14, .inl be)), (qyc, .inl (cA, 56, .inl mn)), (qyd, .inl (cA, 14, .inl fr)), (qye, .inl (cA, 14, .inl tt))] := hD
      refine lv_aload_n hx hb dX4_later_25 rfl (lv_at hl 0 rfl) ?_
      refine va_get (D := D) (ci := 4) (v := .int 1) (C := RX4) (T := TX4) (N := 7) hx hb hts hinX4 hown hK.1 hP 0 rfl rfl 0 (by decide) (hts (.fieldLink RX4 25 "CairnShellsModel" "thrown" "I") (by decide +kernel)) (fun _ h9 => h9) rfl dX4_later_26 ?_
      refine lv_if_ne (tgt := 49) hx hb dX4_later_29 (by decide) (fun h4 => ?_) (fun h4 => ?_)
      rotate_left
      · exact absurd h4 (by decide)
      refine lv_iconst (v := 0) hx hb dX4_later_49 (by decide) ?_
      exact RQ_zret (W1 := [(qy, .inr (4, [.int 1, .int (nI N), .ref qya, .ref qyb, .ref qyc, .ref qyd, .ref qye])), (qya, .inl (cA, 14, .inl al)), (qyb, .inl (cA, 14, .inl be)), (qyc, .inl (cA, 56, .inl mn)), (qyd, .inl (cA, 14, .inl fr)), (qye, .inl (cA, 14, .inl tt))]) hAe hx hb hr hlk hH dX4_later_50 (by omega) (by omega) (Or.inl ⟨fun q => isn_f (by omega) h3 q.2, rfl, rfl⟩) (hP.sub [0, 1, 2, 3, 4, 5] rfl) (hD.sub [0, 1, 2, 3, 4, 5] (by decide) rfl) hS (by decide)
    · obtain ⟨j, hj9, hja⟩ := isn_t (by omega) h3
      have hl : lv_has ls 3 [(0, .ref qy), (1, .int (nI i)), (2, .int (nI j))] := by rw [← hja]; exact hl
      refine lv_iconst (v := 0) hx hb dX4_later_17 (by decide) ?_
      refine lv_goto (tgt := 22) hx hb dX4_later_18 (by decide) ?_
      refine va_put (D := D) (ci := 4) (v := .int 0) (ty := .int) (C := RX4) (T := TX4) (N := 7) hx hb hts hinX4 tyX4 tyX4_ok nmX4 hown hK.1 hP hD hS 0 rfl rfl 0 (by decide) (hts (.fieldLink RX4 25 "CairnShellsModel" "thrown" "I") (by decide +kernel)) (fun _ h9 => h9) rfl (by decide +kernel) rfl rfl (Nat.le_of_ble_eq_true rfl) dX4_later_22 (fun H locs hP hD hS => ?_)
      have hP : va_P D vwCl [(qy, .inr (4, [.int 0, .int (nI N), .ref qya, .ref qyb, .ref qyc, .ref qyd, .ref qye])), (qya, .inl (cA, 14, .inl al)), (qyb, .inl (cA, 14, .inl be)), (qyc, .inl (cA, 56, .inl mn)), (qyd, .inl (cA, 14, .inl fr)), (qye, .inl (cA, 14, .inl tt))] H := hP
      have hD : va_D A [(qy, .inr (4, [.int 0, .int (nI N), .ref qya, .ref qyb, .ref qyc, .ref qyd, .ref qye])), (qya, .inl (cA, 14, .inl al)), (qyb, .inl (cA, 14, .inl be)), (qyc, .inl (cA, 56, .inl mn)), (qyd, .inl (cA, 14, .inl fr)), (qye, .inl (cA, 14, .inl tt))] := hD
      refine lv_aload_n hx hb dX4_later_25 rfl (lv_at hl 0 rfl) ?_
      refine va_get (D := D) (ci := 4) (v := .int 0) (C := RX4) (T := TX4) (N := 7) hx hb hts hinX4 hown hK.1 hP 0 rfl rfl 0 (by decide) (hts (.fieldLink RX4 25 "CairnShellsModel" "thrown" "I") (by decide +kernel)) (fun _ h9 => h9) rfl dX4_later_26 ?_
      refine lv_if_ne (tgt := 49) hx hb dX4_later_29 (by decide) (fun h5 => ?_) (fun h5 => ?_)
      · exact absurd h5 (by decide)
      refine lv_aload_n hx hb dX4_later_32 rfl (lv_at hl 0 rfl) ?_
      refine va_get (D := D) (ci := 4) (v := .ref qyb) (C := RX4) (T := TX4) (N := 7) hx hb hts hinX4 hown hK.1 hP 0 rfl rfl 3 (by decide) (hts (.fieldLink RX4 13 "CairnShellsModel" "beneath" "[I") (by decide +kernel)) (fun _ h9 => h9) rfl dX4_later_33 ?_
      refine lv_iload_n hx hb dX4_later_36 rfl (lv_at hl 1 rfl) ?_
      refine my_iald (D := D) (j := i) hx hb hK hP 2 rfl (by omega) (by decide) dX4_later_37 ?_
      refine lv_iload_n hx hb dX4_later_38 rfl (lv_at hl 2 rfl) ?_
      refine RO_go (va_runS (As := [.int (be i), .int (nI j)]) (rest := []) ⟨hx, hb, hml, hown, hts⟩ (c_X4_has l (D := D) (cA := cA) (H0 := H) (x := be i) (j := j) (hj := by omega)) (va_cwS 2 hts gX4_later_X4_has rfl rfl rfl (by decide +kernel) ⟨Nat.le_of_ble_eq_true rfl, Nat.le_of_ble_eq_true rfl⟩) (cP_S hK) rfl rfl hl.1 rfl (lv_room (Nat.le_of_ble_eq_true rfl)) dX4_later_39 ⟨by omega, by omega⟩) ?_
      refine my_ifeq_b (tgt := 49) hx hb dX4_later_42 (by decide) (fun h6 => ?_) (fun h6 => ?_)
      · refine lv_iconst (v := 0) hx hb dX4_later_49 (by decide) ?_
        exact RQ_zret (W1 := [(qy, .inr (4, [.int 0, .int (nI N), .ref qya, .ref qyb, .ref qyc, .ref qyd, .ref qye])), (qya, .inl (cA, 14, .inl al)), (qyb, .inl (cA, 14, .inl be)), (qyc, .inl (cA, 56, .inl mn)), (qyd, .inl (cA, 14, .inl fr)), (qye, .inl (cA, 14, .inl tt))]) hAe hx hb hr hlk hH dX4_later_50 (by omega) (by omega) (Or.inr ⟨i, j, hi9, hj9, hia, hja, by rw [h6]; rfl, rfl⟩) (hP.sub [0, 1, 2, 3, 4, 5] rfl) (hD.sub [0, 1, 2, 3, 4, 5] (by decide) rfl) hS (by decide)
      · refine lv_iconst (v := 1) hx hb dX4_later_45 (by decide) ?_
        refine lv_goto (tgt := 50) hx hb dX4_later_46 (by decide) ?_
        exact RQ_zret (W1 := [(qy, .inr (4, [.int 0, .int (nI N), .ref qya, .ref qyb, .ref qyc, .ref qyd, .ref qye])), (qya, .inl (cA, 14, .inl al)), (qyb, .inl (cA, 14, .inl be)), (qyc, .inl (cA, 56, .inl mn)), (qyd, .inl (cA, 14, .inl fr)), (qye, .inl (cA, 14, .inl tt))]) hAe hx hb hr hlk hH dX4_later_50 (by omega) (by omega) (Or.inr ⟨i, j, hi9, hj9, hia, hja, by rw [h6]; rfl, rfl⟩) (hP.sub [0, 1, 2, 3, 4, 5] rfl) (hD.sub [0, 1, 2, 3, 4, 5] (by decide) rfl) hS (by decide)
