set_option maxHeartbeats 4000000 in
set_option maxRecDepth 100000 in
theorem c_X4_find (l : Launch) {D : va_G} {cA : ClassId} {H0 : Heap} {qy qya qyb qyc qyd qye N : Nat} {th : Int32} {al be mn fr tt : Nat → Int32} (hN : N ≤ 14) (hP : va_P D vwCl [(qy, .inr (4, [.int th, .int (nI N), .ref qya, .ref qyb, .ref qyc, .ref qyd, .ref qye])), (qya, .inl (cA, 14, .inl al)), (qyb, .inl (cA, 14, .inl be)), (qyc, .inl (cA, 56, .inl mn)), (qyd, .inl (cA, 14, .inl fr)), (qye, .inl (cA, 14, .inl tt))] H0) (hD0 : va_D (fun _ => True) [(qy, .inr (4, [.int th, .int (nI N), .ref qya, .ref qyb, .ref qyc, .ref qyd, .ref qye])), (qya, .inl (cA, 14, .inl al)), (qyb, .inl (cA, 14, .inl be)), (qyc, .inl (cA, 56, .inl mn)), (qyd, .inl (cA, 14, .inl fr)), (qye, .inl (cA, 14, .inl tt))]) : RQ l yX4_find wsX4_find 1 21 0 0 [.ref qy] D cA H0 [(qy, .inr (4, [.int th, .int (nI N), .ref qya, .ref qyb, .ref qyc, .ref qyd, .ref qye])), (qya, .inl (cA, 14, .inl al)), (qyb, .inl (cA, 14, .inl be)), (qyc, .inl (cA, 56, .inl mn)), (qyd, .inl (cA, 14, .inl fr)), (qye, .inl (cA, 14, .inl tt))] (fun v W1 => (N = 14 ∧ v = some (.int 0) ∧ W1 = wMo cA qy qya qyb qyc qyd qye 1 N al be mn fr tt) ∨ (N < 14 ∧ v = some (.int (nI N)) ∧ W1 = wMo cA qy qya qyb qyc qyd qye 0 (N + 1) (upd al N ((1 : Int32) <<< (nI N &&& 31))) be mn (upd fr N (-1)) tt)) := by
  refine RQ_of (cc := cX4_find) (maxL := 1) (ret := (some .int)) (by decide) rfl (Nat.le_of_ble_eq_true rfl) ?_
  intro p e s m below meth c ls hx hb hml hr hown hts hlk hin2 hH hK hl
  have hown : s.vm.findClass RX4 = some m.cls := hown
  have hl : lv_has ls 1 [(0, .ref qy)] := hl
  have hinX4 : ∀ w ∈ wsX40, w ∈ wsX4_find := by decide +kernel
  have hD := hD0.self (sz := H0.size)
  obtain ⟨A, hAe⟩ : ∃ A, A = va_A [(qy, .inr (4, [.int th, .int (nI N), .ref qya, .ref qyb, .ref qyc, .ref qyd, .ref qye])), (qya, .inl (cA, 14, .inl al)), (qyb, .inl (cA, 14, .inl be)), (qyc, .inl (cA, 56, .inl mn)), (qyd, .inl (cA, 14, .inl fr)), (qye, .inl (cA, 14, .inl tt))] H0.size := ⟨_, rfl⟩
  rw [← hAe] at hD ⊢
  have hA : ∀ q : Nat, H0.size ≤ q → A q := fun q h => by rw [hAe]; exact Or.inr h
  have hS : va_S A H0 H0 [] := va_S.rf
  refine lv_aload_n hx hb dX4_find_0 rfl (lv_at hl 0 rfl) ?_
  refine lv_iconst (v := 0) hx hb dX4_find_1 (by decide) ?_
  refine va_put (D := D) (ci := 4) (v := .int 0) (ty := .int) (C := RX4) (T := TX4) (N := 7) hx hb hts hinX4 tyX4 tyX4_ok nmX4 hown hK.1 hP hD hS 0 rfl rfl 0 (by decide) (hts (.fieldLink RX4 25 "CairnShellsModel" "thrown" "I") (by decide +kernel)) (fun _ h9 => h9) rfl (by decide +kernel) rfl rfl (Nat.le_of_ble_eq_true rfl) dX4_find_2 (fun H locs hP hD hS => ?_)
  have hP : va_P D vwCl [(qy, .inr (4, [.int 0, .int (nI N), .ref qya, .ref qyb, .ref qyc, .ref qyd, .ref qye])), (qya, .inl (cA, 14, .inl al)), (qyb, .inl (cA, 14, .inl be)), (qyc, .inl (cA, 56, .inl mn)), (qyd, .inl (cA, 14, .inl fr)), (qye, .inl (cA, 14, .inl tt))] H := hP
  have hD : va_D A [(qy, .inr (4, [.int 0, .int (nI N), .ref qya, .ref qyb, .ref qyc, .ref qyd, .ref qye])), (qya, .inl (cA, 14, .inl al)), (qyb, .inl (cA, 14, .inl be)), (qyc, .inl (cA, 56, .inl mn)), (qyd, .inl (cA, 14, .inl fr)), (qye, .inl (cA, 14, .inl tt))] := hD
  refine lv_aload_n hx hb dX4_find_5 rfl (lv_at hl 0 rfl) ?_
  refine va_get (D := D) (ci := 4) (v := .int (nI N)) (C := RX4) (T := TX4) (N := 7) hx hb hts hinX4 hown hK.1 hP 0 rfl rfl 1 (by decide) (hts (.fieldLink RX4 29 "CairnShellsModel" "layers" "I") (by decide +kernel)) (fun _ h9 => h9) rfl dX4_find_6 ?_
  refine lv_bipush (v := 14) hx hb dX4_find_9 (by decide) ?_
  refine my_neN (x := N) (y := 14) (tgt := 20) hx hb dX4_find_11 (by decide) (by omega) (by omega) (fun h1 => ?_) (fun h1 => ?_)
  · have hN14 : N < 14 := by omega
    refine lv_aload_n hx hb dX4_find_20 rfl (lv_at hl 0 rfl) ?_
    refine va_get (D := D) (ci := 4) (v := .ref qya) (C := RX4) (T := TX4) (N := 7) hx hb hts hinX4 hown hK.1 hP 0 rfl rfl 2 (by decide) (hts (.fieldLink RX4 9 "CairnShellsModel" "alike" "[I") (by decide +kernel)) (fun _ h9 => h9) rfl dX4_find_21 ?_
    refine lv_aload_n hx hb dX4_find_24 rfl (lv_at hl 0 rfl) ?_
    refine va_get (D := D) (ci := 4) (v := .int (nI N)) (C := RX4) (T := TX4) (N := 7) hx hb hts hinX4 hown hK.1 hP 0 rfl rfl 1 (by decide) (hts (.fieldLink RX4 29 "CairnShellsModel" "layers" "I") (by decide +kernel)) (fun _ h9 => h9) rfl dX4_find_25 ?_
    refine lv_iconst (v := 1) hx hb dX4_find_28 (by decide) ?_
    refine lv_aload_n hx hb dX4_find_29 rfl (lv_at hl 0 rfl) ?_
    refine va_get (D := D) (ci := 4) (v := .int (nI N)) (C := RX4) (T := TX4) (N := 7) hx hb hts hinX4 hown hK.1 hP 0 rfl rfl 1 (by decide) (hts (.fieldLink RX4 29 "CairnShellsModel" "layers" "I") (by decide +kernel)) (fun _ h9 => h9) rfl dX4_find_30 ?_
    refine lv_ishl hx hb dX4_find_33 ?_
    refine my_iast (D := D) (j := N) hx hb hK hP hD hS 1 rfl (by omega) (by decide) dX4_find_34 (fun H locs hP hD hS => ?_)
    have hP : va_P D vwCl [(qy, .inr (4, [.int 0, .int (nI N), .ref qya, .ref qyb, .ref qyc, .ref qyd, .ref qye])), (qya, .inl (cA, 14, .inl (upd al N ((1 : Int32) <<< ((nI N) &&& 31))))), (qyb, .inl (cA, 14, .inl be)), (qyc, .inl (cA, 56, .inl mn)), (qyd, .inl (cA, 14, .inl fr)), (qye, .inl (cA, 14, .inl tt))] H := hP
    have hD : va_D A [(qy, .inr (4, [.int 0, .int (nI N), .ref qya, .ref qyb, .ref qyc, .ref qyd, .ref qye])), (qya, .inl (cA, 14, .inl (upd al N ((1 : Int32) <<< ((nI N) &&& 31))))), (qyb, .inl (cA, 14, .inl be)), (qyc, .inl (cA, 56, .inl mn)), (qyd, .inl (cA, 14, .inl fr)), (qye, .inl (cA, 14, .inl tt))] := hD
    refine lv_aload_n hx hb dX4_find_35 rfl (lv_at hl 0 rfl) ?_
    refine va_get (D := D) (ci := 4) (v := .ref qyd) (C := RX4) (T := TX4) (N := 7) hx hb hts hinX4 hown hK.1 hP 0 rfl rfl 5 (by decide) (hts (.fieldLink RX4 19 "CairnShellsModel" "froms" "[I") (by decide +kernel)) (fun _ h9 => h9) rfl dX4_find_36 ?_
    refine lv_aload_n hx hb dX4_find_39 rfl (lv_at hl 0 rfl) ?_
    refine va_get (D := D) (ci := 4) (v := .int (nI N)) (C := RX4) (T := TX4) (N := 7) hx hb hts hinX4 hown hK.1 hP 0 rfl rfl 1 (by decide) (hts (.fieldLink RX4 29 "CairnShellsModel" "layers" "I") (by decide +kernel)) (fun _ h9 => h9) rfl dX4_find_40 ?_
    refine lv_iconst (v := (-1)) hx hb dX4_find_43 (by decide) ?_
    refine my_iast (D := D) (j := N) hx hb hK hP hD hS 4 rfl (by omega) (by decide) dX4_find_44 (fun H locs hP hD hS => ?_)
    have hP : va_P D vwCl [(qy, .inr (4, [.int 0, .int (nI N), .ref qya, .ref qyb, .ref qyc, .ref qyd, .ref qye])), (qya, .inl (cA, 14, .inl (upd al N ((1 : Int32) <<< ((nI N) &&& 31))))), (qyb, .inl (cA, 14, .inl be)), (qyc, .inl (cA, 56, .inl mn)), (qyd, .inl (cA, 14, .inl (upd fr N (-1)))), (qye, .inl (cA, 14, .inl tt))] H := hP
    have hD : va_D A [(qy, .inr (4, [.int 0, .int (nI N), .ref qya, .ref qyb, .ref qyc, .ref qyd, .ref qye])), (qya, .inl (cA, 14, .inl (upd al N ((1 : Int32) <<< ((nI N) &&& 31))))), (qyb, .inl (cA, 14, .inl be)), (qyc, .inl (cA, 56, .inl mn)), (qyd, .inl (cA, 14, .inl (upd fr N (-1)))), (qye, .inl (cA, 14, .inl tt))] := hD
    refine lv_aload_n hx hb dX4_find_45 rfl (lv_at hl 0 rfl) ?_
    refine lv_dup hx hb dX4_find_46 rfl ?_
    refine va_get (D := D) (ci := 4) (v := .int (nI N)) (C := RX4) (T := TX4) (N := 7) hx hb hts hinX4 hown hK.1 hP 0 rfl rfl 1 (by decide) (hts (.fieldLink RX4 29 "CairnShellsModel" "layers" "I") (by decide +kernel)) (fun _ h9 => h9) rfl dX4_find_47 ?_
    refine lv_iconst (v := 1) hx hb dX4_find_50 (by decide) ?_
    refine my_iaddN (x := N) (y := 1) hx hb dX4_find_51 ?_
    refine va_put (D := D) (ci := 4) (v := .int (nI (N + 1))) (ty := .int) (C := RX4) (T := TX4) (N := 7) hx hb hts hinX4 tyX4 tyX4_ok nmX4 hown hK.1 hP hD hS 0 rfl rfl 1 (by decide) (hts (.fieldLink RX4 29 "CairnShellsModel" "layers" "I") (by decide +kernel)) (fun _ h9 => h9) rfl (by decide +kernel) rfl rfl (Nat.le_of_ble_eq_true rfl) dX4_find_52 (fun H locs hP hD hS => ?_)
    have hP : va_P D vwCl [(qy, .inr (4, [.int 0, .int (nI (N + 1)), .ref qya, .ref qyb, .ref qyc, .ref qyd, .ref qye])), (qya, .inl (cA, 14, .inl (upd al N ((1 : Int32) <<< ((nI N) &&& 31))))), (qyb, .inl (cA, 14, .inl be)), (qyc, .inl (cA, 56, .inl mn)), (qyd, .inl (cA, 14, .inl (upd fr N (-1)))), (qye, .inl (cA, 14, .inl tt))] H := hP
    have hD : va_D A [(qy, .inr (4, [.int 0, .int (nI (N + 1)), .ref qya, .ref qyb, .ref qyc, .ref qyd, .ref qye])), (qya, .inl (cA, 14, .inl (upd al N ((1 : Int32) <<< ((nI N) &&& 31))))), (qyb, .inl (cA, 14, .inl be)), (qyc, .inl (cA, 56, .inl mn)), (qyd, .inl (cA, 14, .inl (upd fr N (-1)))), (qye, .inl (cA, 14, .inl tt))] := hD
    refine lv_aload_n hx hb dX4_find_55 rfl (lv_at hl 0 rfl) ?_
    refine va_get (D := D) (ci := 4) (v := .int (nI (N + 1))) (C := RX4) (T := TX4) (N := 7) hx hb hts hinX4 hown hK.1 hP 0 rfl rfl 1 (by decide) (hts (.fieldLink RX4 29 "CairnShellsModel" "layers" "I") (by decide +kernel)) (fun _ h9 => h9) rfl dX4_find_56 ?_
    refine lv_iconst (v := 1) hx hb dX4_find_59 (by decide) ?_
    refine my_isubN (x := N + 1) (y := 1) hx hb dX4_find_60 (by omega) ?_
    exact RQ_zret (W1 := [(qy, .inr (4, [.int 0, .int (nI (N + 1)), .ref qya, .ref qyb, .ref qyc, .ref qyd, .ref qye])), (qya, .inl (cA, 14, .inl (upd al N ((1 : Int32) <<< ((nI N) &&& 31))))), (qyb, .inl (cA, 14, .inl be)), (qyc, .inl (cA, 56, .inl mn)), (qyd, .inl (cA, 14, .inl (upd fr N (-1)))), (qye, .inl (cA, 14, .inl tt))]) hAe hx hb hr hlk hH dX4_find_61 (by omega) (by omega) (Or.inr ⟨by omega, rfl, rfl⟩) (hP.sub [0, 1, 2, 3, 4, 5] rfl) (hD.sub [0, 1, 2, 3, 4, 5] (by decide) rfl) hS (by rfl)
  · refine lv_aload_n hx hb dX4_find_14 rfl (lv_at hl 0 rfl) ?_
    refine lv_iconst (v := 1) hx hb dX4_find_15 (by decide) ?_
    refine WR_go (ws' := [(qy, .inr (4, [.int 1, .int (nI N), .ref qya, .ref qyb, .ref qyc, .ref qyd, .ref qye])), (qya, .inl (cA, 14, .inl al)), (qyb, .inl (cA, 14, .inl be)), (qyc, .inl (cA, 56, .inl mn)), (qyd, .inl (cA, 14, .inl fr)), (qye, .inl (cA, 14, .inl tt))]) (va_runV (As := [.int 1]) (rest := []) ⟨hx, hb, hml, hown, hts⟩ (c_X4_fail l (D := D) (cA := cA) (H0 := H) (v := 1) (hP := hP.sub (ws' := [(qy, .inr (4, [.int 0, .int (nI N), .ref qya, .ref qyb, .ref qyc, .ref qyd, .ref qye]))]) [0] rfl) (hD0 := (hD.sub (ws' := [(qy, .inr (4, [.int 0, .int (nI N), .ref qya, .ref qyb, .ref qyc, .ref qyd, .ref qye]))]) [0] (by decide) rfl).weaken (fun _ _ _ _ => trivial))) (cwV 1 hts gX4_find_X4_fail rfl rfl rfl (by decide +kernel) ⟨Nat.le_of_ble_eq_true rfl, Nat.le_of_ble_eq_true rfl⟩) (cP_V hK (va_recv hK.1 hP (ci := 4) (q0 := 0) rfl rfl)) rfl rfl hl.1 rfl (lv_room (Nat.le_of_ble_eq_true rfl)) dX4_find_16 ⟨by omega, by omega⟩) hP hD hS hA [0] [1, 2, 3, 4, 5] rfl (by decide) (by decide) [5, 0, 1, 2, 3, 4] rfl (fun H locs hP hS hz => ?_)
    have hD : va_D A [(qy, .inr (4, [.int 1, .int (nI N), .ref qya, .ref qyb, .ref qyc, .ref qyd, .ref qye])), (qya, .inl (cA, 14, .inl al)), (qyb, .inl (cA, 14, .inl be)), (qyc, .inl (cA, 56, .inl mn)), (qyd, .inl (cA, 14, .inl fr)), (qye, .inl (cA, 14, .inl tt))] := hD.adr rfl
    exact RQ_zret (W1 := [(qy, .inr (4, [.int 1, .int (nI N), .ref qya, .ref qyb, .ref qyc, .ref qyd, .ref qye])), (qya, .inl (cA, 14, .inl al)), (qyb, .inl (cA, 14, .inl be)), (qyc, .inl (cA, 56, .inl mn)), (qyd, .inl (cA, 14, .inl fr)), (qye, .inl (cA, 14, .inl tt))]) hAe hx hb hr hlk hH dX4_find_19 (by omega) (by omega) (Or.inl ⟨h1, rfl, rfl⟩) (hP.sub [0, 1, 2, 3, 4, 5] rfl) (hD.sub [0, 1, 2, 3, 4, 5] (by decide) rfl) hS (by rfl)
