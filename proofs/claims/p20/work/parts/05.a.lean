set_option maxHeartbeats 4000000 in
set_option maxRecDepth 100000 in
/-- Integer.bitCount, as its instructions say -/
theorem c_J6_bitCount_0f7a4 (l : Launch) {D : va_G} {cA : ClassId} {H0 : Heap}  (x : Int32) : RO l yJ6_bitCount_0f7a4 wsJ6_bitCount_0f7a4 0 0 [.int x] D cA H0 (some (.int (bcI x))) := by
  refine RO_of (cc := cJ6_bitCount_0f7a4) (maxL := 1) (ret := (some .int)) (by decide) rfl (Nat.le_of_ble_eq_true rfl) ?_
  intro p e s m below meth c ls hx hb hml hr hown hts hlk hH hK hl
  have hown : s.vm.findClass RJ6 = some m.cls := hown
  have hl : lv_has ls 1 [(0, .int x)] := hl
  refine lv_iload_n hx hb dJ6_bitCount_0f7a4_0 rfl (lv_at hl 0 rfl) ?_
  refine lv_iload_n hx hb dJ6_bitCount_0f7a4_1 rfl (lv_at hl 0 rfl) ?_
  refine lv_iconst (v := 1) hx hb dJ6_bitCount_0f7a4_2 (by decide) ?_
  refine lv_iushr (v := ((x : Int32).toUInt32 >>> ((1 : Int32).toUInt32 &&& Int32.toUInt32 31)).toInt32) hx hb dJ6_bitCount_0f7a4_3 rfl ?_
  refine lv_ldcw (v := 1431655765) hx hb hown (hts (.constant RJ6 265 (1431655765)) (by decide +kernel)) dJ6_bitCount_0f7a4_4 ?_
  refine lv_iand hx hb dJ6_bitCount_0f7a4_7 ?_
  refine lv_isub hx hb dJ6_bitCount_0f7a4_8 ?_
  refine lv_topi (fun a1 ea1 => ?_)
  refine lv_istore_n (lv' := [(0, .int a1)]) hx hb dJ6_bitCount_0f7a4_9 rfl hl (by decide) rfl (fun ls hl => ?_)
  refine lv_iload_n hx hb dJ6_bitCount_0f7a4_10 rfl (lv_at hl 0 rfl) ?_
  refine lv_ldcw (v := 858993459) hx hb hown (hts (.constant RJ6 266 (858993459)) (by decide +kernel)) dJ6_bitCount_0f7a4_11 ?_
  refine lv_iand hx hb dJ6_bitCount_0f7a4_14 ?_
  refine lv_iload_n hx hb dJ6_bitCount_0f7a4_15 rfl (lv_at hl 0 rfl) ?_
  refine lv_iconst (v := 2) hx hb dJ6_bitCount_0f7a4_16 (by decide) ?_
  refine lv_iushr (v := ((a1 : Int32).toUInt32 >>> ((2 : Int32).toUInt32 &&& Int32.toUInt32 31)).toInt32) hx hb dJ6_bitCount_0f7a4_17 rfl ?_
  refine lv_ldcw (v := 858993459) hx hb hown (hts (.constant RJ6 266 (858993459)) (by decide +kernel)) dJ6_bitCount_0f7a4_18 ?_
  refine lv_iand hx hb dJ6_bitCount_0f7a4_21 ?_
  refine lv_iadd hx hb dJ6_bitCount_0f7a4_22 ?_
  refine lv_topi (fun a2 ea2 => ?_)
  refine lv_istore_n (lv' := [(0, .int a2)]) hx hb dJ6_bitCount_0f7a4_23 rfl hl (by decide) rfl (fun ls hl => ?_)
  refine lv_iload_n hx hb dJ6_bitCount_0f7a4_24 rfl (lv_at hl 0 rfl) ?_
  refine lv_iload_n hx hb dJ6_bitCount_0f7a4_25 rfl (lv_at hl 0 rfl) ?_
  refine lv_iconst (v := 4) hx hb dJ6_bitCount_0f7a4_26 (by decide) ?_
  refine lv_iushr (v := ((a2 : Int32).toUInt32 >>> ((4 : Int32).toUInt32 &&& Int32.toUInt32 31)).toInt32) hx hb dJ6_bitCount_0f7a4_27 rfl ?_
  refine lv_iadd hx hb dJ6_bitCount_0f7a4_28 ?_
  refine lv_ldcw (v := 252645135) hx hb hown (hts (.constant RJ6 267 (252645135)) (by decide +kernel)) dJ6_bitCount_0f7a4_29 ?_
  refine lv_iand hx hb dJ6_bitCount_0f7a4_32 ?_
  refine lv_topi (fun a3 ea3 => ?_)
  refine lv_istore_n (lv' := [(0, .int a3)]) hx hb dJ6_bitCount_0f7a4_33 rfl hl (by decide) rfl (fun ls hl => ?_)
  refine lv_iload_n hx hb dJ6_bitCount_0f7a4_34 rfl (lv_at hl 0 rfl) ?_
  refine lv_iload_n hx hb dJ6_bitCount_0f7a4_35 rfl (lv_at hl 0 rfl) ?_
  refine lv_bipush (v := 8) hx hb dJ6_bitCount_0f7a4_36 (by decide) ?_
  refine lv_iushr (v := ((a3 : Int32).toUInt32 >>> ((8 : Int32).toUInt32 &&& Int32.toUInt32 31)).toInt32) hx hb dJ6_bitCount_0f7a4_38 rfl ?_
  refine lv_iadd hx hb dJ6_bitCount_0f7a4_39 ?_
  refine lv_topi (fun a4 ea4 => ?_)
  refine lv_istore_n (lv' := [(0, .int a4)]) hx hb dJ6_bitCount_0f7a4_40 rfl hl (by decide) rfl (fun ls hl => ?_)
  refine lv_iload_n hx hb dJ6_bitCount_0f7a4_41 rfl (lv_at hl 0 rfl) ?_
  refine lv_iload_n hx hb dJ6_bitCount_0f7a4_42 rfl (lv_at hl 0 rfl) ?_
  refine lv_bipush (v := 16) hx hb dJ6_bitCount_0f7a4_43 (by decide) ?_
  refine lv_iushr (v := ((a4 : Int32).toUInt32 >>> ((16 : Int32).toUInt32 &&& Int32.toUInt32 31)).toInt32) hx hb dJ6_bitCount_0f7a4_45 rfl ?_
  refine lv_iadd hx hb dJ6_bitCount_0f7a4_46 ?_
  refine lv_topi (fun a5 ea5 => ?_)
  refine lv_istore_n (lv' := [(0, .int a5)]) hx hb dJ6_bitCount_0f7a4_47 rfl hl (by decide) rfl (fun ls hl => ?_)
  refine lv_iload_n hx hb dJ6_bitCount_0f7a4_48 rfl (lv_at hl 0 rfl) ?_
  refine lv_bipush (v := 63) hx hb dJ6_bitCount_0f7a4_49 (by decide) ?_
  refine lv_iand hx hb dJ6_bitCount_0f7a4_51 ?_
  exact RO_zret hx hb hr hlk hH dJ6_bitCount_0f7a4_52 (by rfl) (by subst ea5; subst ea4; subst ea3; subst ea2; subst ea1; rfl)
theorem c_bc (l : Launch) {D : va_G} {cA : ClassId} {H0 : Heap} (x : Int32) (hs : small x) : RO l yJ6_bitCount_0f7a4 wsJ6_bitCount_0f7a4 0 0 [.int x] D cA H0 (some (.int (nI (ct (bt x) 14)))) := by
  rw [← bc_small hs]
  exact c_J6_bitCount_0f7a4 l x
set_option maxHeartbeats 4000000 in
set_option maxRecDepth 100000 in
theorem c_X3_has (l : Launch) {D : va_G} {cA : ClassId} {H0 : Heap}  (x : Int32) (j : Nat) (hj : j < 32) : RO l yX3_has wsX3_has 0 0 [.int x, .int (nI j)] D cA H0 (some (.int (bI (bt x j)))) := by
  refine RO_of (cc := cX3_has) (maxL := 2) (ret := (some .boolean)) (by decide) rfl (Nat.le_of_ble_eq_true rfl) ?_
  intro p e s m below meth c ls hx hb hml hr hown hts hlk hH hK hl
  have hown : s.vm.findClass RX3 = some m.cls := hown
  have hl : lv_has ls 2 [(0, .int x), (1, .int (nI j))] := hl
  refine lv_iload_n hx hb dX3_has_0 rfl (lv_at hl 0 rfl) ?_
  refine lv_iload_n hx hb dX3_has_1 rfl (lv_at hl 1 rfl) ?_
  refine lv_ishr hx hb dX3_has_2 ?_
  refine lv_iconst (v := 1) hx hb dX3_has_3 (by decide) ?_
  refine lv_iand hx hb dX3_has_4 ?_
  refine lv_if_eq (tgt := 12) hx hb dX3_has_5 (by decide) (fun h1 => ?_) (fun h1 => ?_)
  · refine lv_iconst (v := 0) hx hb dX3_has_12 (by decide) ?_
    exact RO_zret hx hb hr hlk hH dX3_has_13 (by decide) (by first | exact bI_of (by cases h9 : bt x j with | true => rfl | false => exact absurd ((hasZ hj).mpr h9) h1) | exact bI_no ((hasZ hj).mp h1))
  · refine lv_iconst (v := 1) hx hb dX3_has_8 (by decide) ?_
    refine lv_goto (tgt := 13) hx hb dX3_has_9 (by decide) ?_
    exact RO_zret hx hb hr hlk hH dX3_has_13 (by decide) (by first | exact bI_of (by cases h9 : bt x j with | true => rfl | false => exact absurd ((hasZ hj).mpr h9) h1) | exact bI_no ((hasZ hj).mp h1))
set_option maxHeartbeats 4000000 in
set_option maxRecDepth 100000 in
theorem c_X0_size (l : Launch) {D : va_G} {cA : ClassId} {H0 : Heap} {qh qf ql : Nat} {bu : Int32} (hs : small bu) (hP : va_P D vwCl [(qh, .inr (0, [.int bu, .ref qf, .ref ql]))] H0) : RO l yX0_size wsX0_size 1 20 [.ref qh] D cA H0 (some (.int (nI (ct (bt bu) 14)))) := by
  refine RO_of (cc := cX0_size) (maxL := 1) (ret := (some .int)) (by decide) rfl (Nat.le_of_ble_eq_true rfl) ?_
  intro p e s m below meth c ls hx hb hml hr hown hts hlk hH hK hl
  have hown : s.vm.findClass RX0 = some m.cls := hown
  have hl : lv_has ls 1 [(0, .ref qh)] := hl
  have hinX0 : ∀ w ∈ wsX00, w ∈ wsX0_size := by decide +kernel
  refine lv_aload_n hx hb dX0_size_0 rfl (lv_at hl 0 rfl) ?_
  refine va_get (D := D) (ci := 0) (v := .int bu) (C := RX0) (T := TX0) (N := 3) hx hb hts hinX0 hown hK.1 hP 0 rfl rfl 0 (by decide) (hts (.fieldLink RX0 18 "CairnShells$Hearths" "burning" "I") (by decide +kernel)) (fun _ h9 => h9) rfl dX0_size_1 ?_
  refine RO_go (va_runS (As := [.int bu]) (rest := []) ⟨hx, hb, hml, hown, hts⟩ (c_bc l (D := D) (cA := cA) (H0 := H0) (x := bu) (hs := by assumption)) (va_cwS 1 hts gX0_size_J6_bitCount_0f7a4 rfl rfl rfl (by decide +kernel) ⟨Nat.le_of_ble_eq_true rfl, Nat.le_of_ble_eq_true rfl⟩) (cP_S hK) rfl rfl hl.1 rfl (lv_room (Nat.le_of_ble_eq_true rfl)) dX0_size_4 ⟨by omega, by omega⟩) ?_
  exact RO_zret hx hb hr hlk hH dX0_size_7 (by rfl) rfl
set_option maxHeartbeats 4000000 in
set_option maxRecDepth 100000 in
theorem c_X0_isAt (l : Launch) {D : va_G} {cA : ClassId} {H0 : Heap} {qh qf ql : Nat} {bu : Int32} (j : Nat) (hj : j < 14) (hP : va_P D vwCl [(qh, .inr (0, [.int bu, .ref qf, .ref ql]))] H0) : RO l yX0_isAt wsX0_isAt 1 21 [.ref qh, .int (nI j)] D cA H0 (some (.int (bI (bt bu j)))) := by
  refine RO_of (cc := cX0_isAt) (maxL := 2) (ret := (some .boolean)) (by decide) rfl (Nat.le_of_ble_eq_true rfl) ?_
  intro p e s m below meth c ls hx hb hml hr hown hts hlk hH hK hl
  have hown : s.vm.findClass RX0 = some m.cls := hown
  have hl : lv_has ls 2 [(0, .ref qh), (1, .int (nI j))] := hl
  have hinX0 : ∀ w ∈ wsX00, w ∈ wsX0_isAt := by decide +kernel
  refine lv_aload_n hx hb dX0_isAt_0 rfl (lv_at hl 0 rfl) ?_
  refine va_get (D := D) (ci := 0) (v := .int bu) (C := RX0) (T := TX0) (N := 3) hx hb hts hinX0 hown hK.1 hP 0 rfl rfl 0 (by decide) (hts (.fieldLink RX0 18 "CairnShells$Hearths" "burning" "I") (by decide +kernel)) (fun _ h9 => h9) rfl dX0_isAt_1 ?_
  refine lv_iload_n hx hb dX0_isAt_4 rfl (lv_at hl 1 rfl) ?_
  refine RO_go (va_runSN (As := [.int bu, .int (nI j)]) (rest := []) ⟨hx, hb, hml, hown, hts⟩ (c_X3_has l (D := D) (cA := cA) (H0 := H0) (x := bu) (j := j) (hj := by omega)) ⟨va_cnB 2 hts gX0_isAt_X3_has_n28 rfl rfl rfl hK.2.1 (hts (.initialized RX3) (by decide +kernel)) (by decide +kernel) ⟨Nat.le_of_ble_eq_true rfl, Nat.le_of_ble_eq_true rfl⟩, (hts (.static yX3_has) (by decide +kernel)), trivial⟩ (cP_S hK) rfl rfl hl.1 rfl (lv_room (Nat.le_of_ble_eq_true rfl)) dX0_isAt_5 ⟨by omega, by omega⟩) ?_
  exact RO_zret hx hb hr hlk hH dX0_isAt_8 (bI_nar _) rfl
set_option maxHeartbeats 4000000 in
set_option maxRecDepth 100000 in
theorem c_X0_firstAt (l : Launch) {D : va_G} {cA : ClassId} {H0 : Heap} {qh qf ql : Nat} {bu : Int32} {fi : Nat → Int32} (j : Nat) (hj : j < 14) (hP : va_P D vwCl [(qh, .inr (0, [.int bu, .ref qf, .ref ql])), (qf, .inl (cA, 14, .inl fi))] H0) : RO l yX0_firstAt wsX0_firstAt 0 0 [.ref qh, .int (nI j)] D cA H0 (some (.int (fi j))) := by
  refine RO_of (cc := cX0_firstAt) (maxL := 2) (ret := (some .int)) (by decide) rfl (Nat.le_of_ble_eq_true rfl) ?_
  intro p e s m below meth c ls hx hb hml hr hown hts hlk hH hK hl
  have hown : s.vm.findClass RX0 = some m.cls := hown
  have hl : lv_has ls 2 [(0, .ref qh), (1, .int (nI j))] := hl
  have hinX0 : ∀ w ∈ wsX00, w ∈ wsX0_firstAt := by decide +kernel
  refine lv_aload_n hx hb dX0_firstAt_0 rfl (lv_at hl 0 rfl) ?_
  refine va_get (D := D) (ci := 0) (v := .ref qf) (C := RX0) (T := TX0) (N := 3) hx hb hts hinX0 hown hK.1 hP 0 rfl rfl 1 (by decide) (hts (.fieldLink RX0 9 "CairnShells$Hearths" "first" "[I") (by decide +kernel)) (fun _ h9 => h9) rfl dX0_firstAt_1 ?_
  refine lv_iload_n hx hb dX0_firstAt_4 rfl (lv_at hl 1 rfl) ?_
  refine my_iald (D := D) (j := j) hx hb hK hP 1 rfl (by omega) (by decide) dX0_firstAt_5 ?_
  exact RO_zret hx hb hr hlk hH dX0_firstAt_6 (by rfl) rfl
set_option maxHeartbeats 4000000 in
set_option maxRecDepth 100000 in
theorem c_X0_put (l : Launch) {D : va_G} {cA : ClassId} {H0 : Heap} {qh qf ql : Nat} {bu : Int32} {fi la : Nat → Int32} (j : Nat) (fr : Int32) (la2 : Int32) (hj : j < 14) (hP : va_P D vwCl [(qh, .inr (0, [.int bu, .ref qf, .ref ql])), (qf, .inl (cA, 14, .inl fi)), (ql, .inl (cA, 14, .inl la))] H0) (hD0 : va_D (fun _ => True) [(qh, .inr (0, [.int bu, .ref qf, .ref ql])), (qf, .inl (cA, 14, .inl fi)), (ql, .inl (cA, 14, .inl la))]) : WR l yX0_put wsX0_put 0 0 0 0 [.ref qh, .int (nI j), .int fr, .int la2] D cA H0 none [(qh, .inr (0, [.int bu, .ref qf, .ref ql])), (qf, .inl (cA, 14, .inl fi)), (ql, .inl (cA, 14, .inl la))] [(qh, .inr (0, [.int (bu ||| (1 <<< (nI j &&& 31))), .ref qf, .ref ql])), (qf, .inl (cA, 14, .inl (upd fi j fr))), (ql, .inl (cA, 14, .inl (upd la j la2)))] := by
  refine WR_of (cc := cX0_put) (maxL := 4) (ret := none) (by decide) rfl (Nat.le_of_ble_eq_true rfl) ?_
  intro p e s m below meth c ls hx hb hml hr hown hts hlk hin2 hH hK hl
  have hown : s.vm.findClass RX0 = some m.cls := hown
  have hl : lv_has ls 4 [(0, .ref qh), (1, .int (nI j)), (2, .int fr), (3, .int la2)] := hl
  have hinX0 : ∀ w ∈ wsX00, w ∈ wsX0_put := by decide +kernel
  have hD := hD0.self (sz := H0.size)
  obtain ⟨A, hAe⟩ : ∃ A, A = va_A [(qh, .inr (0, [.int bu, .ref qf, .ref ql])), (qf, .inl (cA, 14, .inl fi)), (ql, .inl (cA, 14, .inl la))] H0.size := ⟨_, rfl⟩
  rw [← hAe] at hD ⊢
  have hA : ∀ q : Nat, H0.size ≤ q → A q := fun q h => by rw [hAe]; exact Or.inr h
  have hS : va_S A H0 H0 [] := va_S.rf
  refine lv_aload_n hx hb dX0_put_0 rfl (lv_at hl 0 rfl) ?_
  refine lv_dup hx hb dX0_put_1 rfl ?_
  refine va_get (D := D) (ci := 0) (v := .int bu) (C := RX0) (T := TX0) (N := 3) hx hb hts hinX0 hown hK.1 hP 0 rfl rfl 0 (by decide) (hts (.fieldLink RX0 18 "CairnShells$Hearths" "burning" "I") (by decide +kernel)) (fun _ h9 => h9) rfl dX0_put_2 ?_
  refine lv_iconst (v := 1) hx hb dX0_put_5 (by decide) ?_
  refine lv_iload_n hx hb dX0_put_6 rfl (lv_at hl 1 rfl) ?_
  refine lv_ishl hx hb dX0_put_7 ?_
  refine lv_ior hx hb dX0_put_8 ?_
  refine va_put (D := D) (ci := 0) (v := .int (bu ||| ((1 : Int32) <<< ((nI j) &&& 31)))) (ty := .int) (C := RX0) (T := TX0) (N := 3) hx hb hts hinX0 tyX0 tyX0_ok nmX0 hown hK.1 hP hD hS 0 rfl rfl 0 (by decide) (hts (.fieldLink RX0 18 "CairnShells$Hearths" "burning" "I") (by decide +kernel)) (fun _ h9 => h9) rfl (by decide +kernel) rfl rfl (Nat.le_of_ble_eq_true rfl) dX0_put_9 (fun H locs hP hD hS => ?_)
  have hP : va_P D vwCl [(qh, .inr (0, [.int (bu ||| ((1 : Int32) <<< ((nI j) &&& 31))), .ref qf, .ref ql])), (qf, .inl (cA, 14, .inl fi)), (ql, .inl (cA, 14, .inl la))] H := hP
  have hD : va_D A [(qh, .inr (0, [.int (bu ||| ((1 : Int32) <<< ((nI j) &&& 31))), .ref qf, .ref ql])), (qf, .inl (cA, 14, .inl fi)), (ql, .inl (cA, 14, .inl la))] := hD
  refine lv_aload_n hx hb dX0_put_12 rfl (lv_at hl 0 rfl) ?_
  refine va_get (D := D) (ci := 0) (v := .ref qf) (C := RX0) (T := TX0) (N := 3) hx hb hts hinX0 hown hK.1 hP 0 rfl rfl 1 (by decide) (hts (.fieldLink RX0 9 "CairnShells$Hearths" "first" "[I") (by decide +kernel)) (fun _ h9 => h9) rfl dX0_put_13 ?_
  refine lv_iload_n hx hb dX0_put_16 rfl (lv_at hl 1 rfl) ?_
  refine lv_iload_n hx hb dX0_put_17 rfl (lv_at hl 2 rfl) ?_
  refine my_iast (D := D) (j := j) hx hb hK hP hD hS 1 rfl (by omega) (by decide) dX0_put_18 (fun H locs hP hD hS => ?_)
  have hP : va_P D vwCl [(qh, .inr (0, [.int (bu ||| ((1 : Int32) <<< ((nI j) &&& 31))), .ref qf, .ref ql])), (qf, .inl (cA, 14, .inl (upd fi j fr))), (ql, .inl (cA, 14, .inl la))] H := hP
  have hD : va_D A [(qh, .inr (0, [.int (bu ||| ((1 : Int32) <<< ((nI j) &&& 31))), .ref qf, .ref ql])), (qf, .inl (cA, 14, .inl (upd fi j fr))), (ql, .inl (cA, 14, .inl la))] := hD
  refine lv_aload_n hx hb dX0_put_19 rfl (lv_at hl 0 rfl) ?_
  refine va_get (D := D) (ci := 0) (v := .ref ql) (C := RX0) (T := TX0) (N := 3) hx hb hts hinX0 hown hK.1 hP 0 rfl rfl 2 (by decide) (hts (.fieldLink RX0 15 "CairnShells$Hearths" "last" "[I") (by decide +kernel)) (fun _ h9 => h9) rfl dX0_put_20 ?_
  refine lv_iload_n hx hb dX0_put_23 rfl (lv_at hl 1 rfl) ?_
  refine lv_iload_n hx hb dX0_put_24 rfl (lv_at hl 3 rfl) ?_
  refine my_iast (D := D) (j := j) hx hb hK hP hD hS 2 rfl (by omega) (by decide) dX0_put_25 (fun H locs hP hD hS => ?_)
  have hP : va_P D vwCl [(qh, .inr (0, [.int (bu ||| ((1 : Int32) <<< ((nI j) &&& 31))), .ref qf, .ref ql])), (qf, .inl (cA, 14, .inl (upd fi j fr))), (ql, .inl (cA, 14, .inl (upd la j la2)))] H := hP
  have hD : va_D A [(qh, .inr (0, [.int (bu ||| ((1 : Int32) <<< ((nI j) &&& 31))), .ref qf, .ref ql])), (qf, .inl (cA, 14, .inl (upd fi j fr))), (ql, .inl (cA, 14, .inl (upd la j la2)))] := hD
  exact WR_vret hAe hx hb hr hlk hH dX0_put_26 (by omega) (by omega) (hP.sub [0, 1, 2] rfl) hS
set_option maxHeartbeats 4000000 in
set_option maxRecDepth 100000 in
theorem c_X0_take (l : Launch) {D : va_G} {cA : ClassId} {H0 : Heap} {qh qf ql : Nat} {bu : Int32} {fi la : Nat → Int32} (j : Nat) (hj : j < 14) (hP : va_P D vwCl [(qh, .inr (0, [.int bu, .ref qf, .ref ql])), (qf, .inl (cA, 14, .inl fi)), (ql, .inl (cA, 14, .inl la))] H0) (hD0 : va_D (fun _ => True) [(qh, .inr (0, [.int bu, .ref qf, .ref ql])), (qf, .inl (cA, 14, .inl fi)), (ql, .inl (cA, 14, .inl la))]) : WR l yX0_take wsX0_take 0 0 0 0 [.ref qh, .int (nI j)] D cA H0 none [(qh, .inr (0, [.int bu, .ref qf, .ref ql])), (qf, .inl (cA, 14, .inl fi)), (ql, .inl (cA, 14, .inl la))] [(qh, .inr (0, [.int (bu &&& ((1 <<< (nI j &&& 31)) ^^^ (-1))), .ref qf, .ref ql])), (qf, .inl (cA, 14, .inl (upd fi j 0))), (ql, .inl (cA, 14, .inl (upd la j 9999)))] := by
  refine WR_of (cc := cX0_take) (maxL := 2) (ret := none) (by decide) rfl (Nat.le_of_ble_eq_true rfl) ?_
  intro p e s m below meth c ls hx hb hml hr hown hts hlk hin2 hH hK hl
  have hown : s.vm.findClass RX0 = some m.cls := hown
  have hl : lv_has ls 2 [(0, .ref qh), (1, .int (nI j))] := hl
  have hinX0 : ∀ w ∈ wsX00, w ∈ wsX0_take := by decide +kernel
  have hD := hD0.self (sz := H0.size)
  obtain ⟨A, hAe⟩ : ∃ A, A = va_A [(qh, .inr (0, [.int bu, .ref qf, .ref ql])), (qf, .inl (cA, 14, .inl fi)), (ql, .inl (cA, 14, .inl la))] H0.size := ⟨_, rfl⟩
  rw [← hAe] at hD ⊢
  have hA : ∀ q : Nat, H0.size ≤ q → A q := fun q h => by rw [hAe]; exact Or.inr h
  have hS : va_S A H0 H0 [] := va_S.rf
  refine lv_aload_n hx hb dX0_take_0 rfl (lv_at hl 0 rfl) ?_
  refine lv_dup hx hb dX0_take_1 rfl ?_
  refine va_get (D := D) (ci := 0) (v := .int bu) (C := RX0) (T := TX0) (N := 3) hx hb hts hinX0 hown hK.1 hP 0 rfl rfl 0 (by decide) (hts (.fieldLink RX0 18 "CairnShells$Hearths" "burning" "I") (by decide +kernel)) (fun _ h9 => h9) rfl dX0_take_2 ?_
  refine lv_iconst (v := 1) hx hb dX0_take_5 (by decide) ?_
  refine lv_iload_n hx hb dX0_take_6 rfl (lv_at hl 1 rfl) ?_
  refine lv_ishl hx hb dX0_take_7 ?_
  refine lv_iconst (v := (-1)) hx hb dX0_take_8 (by decide) ?_
  refine lv_ixor hx hb dX0_take_9 ?_
  refine lv_iand hx hb dX0_take_10 ?_
  refine va_put (D := D) (ci := 0) (v := .int (bu &&& (((1 : Int32) <<< ((nI j) &&& 31)) ^^^ (-1)))) (ty := .int) (C := RX0) (T := TX0) (N := 3) hx hb hts hinX0 tyX0 tyX0_ok nmX0 hown hK.1 hP hD hS 0 rfl rfl 0 (by decide) (hts (.fieldLink RX0 18 "CairnShells$Hearths" "burning" "I") (by decide +kernel)) (fun _ h9 => h9) rfl (by decide +kernel) rfl rfl (Nat.le_of_ble_eq_true rfl) dX0_take_11 (fun H locs hP hD hS => ?_)
  have hP : va_P D vwCl [(qh, .inr (0, [.int (bu &&& (((1 : Int32) <<< ((nI j) &&& 31)) ^^^ (-1))), .ref qf, .ref ql])), (qf, .inl (cA, 14, .inl fi)), (ql, .inl (cA, 14, .inl la))] H := hP
  have hD : va_D A [(qh, .inr (0, [.int (bu &&& (((1 : Int32) <<< ((nI j) &&& 31)) ^^^ (-1))), .ref qf, .ref ql])), (qf, .inl (cA, 14, .inl fi)), (ql, .inl (cA, 14, .inl la))] := hD
  refine lv_aload_n hx hb dX0_take_14 rfl (lv_at hl 0 rfl) ?_
  refine va_get (D := D) (ci := 0) (v := .ref qf) (C := RX0) (T := TX0) (N := 3) hx hb hts hinX0 hown hK.1 hP 0 rfl rfl 1 (by decide) (hts (.fieldLink RX0 9 "CairnShells$Hearths" "first" "[I") (by decide +kernel)) (fun _ h9 => h9) rfl dX0_take_15 ?_
  refine lv_iload_n hx hb dX0_take_18 rfl (lv_at hl 1 rfl) ?_
  refine lv_iconst (v := 0) hx hb dX0_take_19 (by decide) ?_
  refine my_iast (D := D) (j := j) hx hb hK hP hD hS 1 rfl (by omega) (by decide) dX0_take_20 (fun H locs hP hD hS => ?_)
  have hP : va_P D vwCl [(qh, .inr (0, [.int (bu &&& (((1 : Int32) <<< ((nI j) &&& 31)) ^^^ (-1))), .ref qf, .ref ql])), (qf, .inl (cA, 14, .inl (upd fi j 0))), (ql, .inl (cA, 14, .inl la))] H := hP
  have hD : va_D A [(qh, .inr (0, [.int (bu &&& (((1 : Int32) <<< ((nI j) &&& 31)) ^^^ (-1))), .ref qf, .ref ql])), (qf, .inl (cA, 14, .inl (upd fi j 0))), (ql, .inl (cA, 14, .inl la))] := hD
  refine lv_aload_n hx hb dX0_take_21 rfl (lv_at hl 0 rfl) ?_
  refine va_get (D := D) (ci := 0) (v := .ref ql) (C := RX0) (T := TX0) (N := 3) hx hb hts hinX0 hown hK.1 hP 0 rfl rfl 2 (by decide) (hts (.fieldLink RX0 15 "CairnShells$Hearths" "last" "[I") (by decide +kernel)) (fun _ h9 => h9) rfl dX0_take_22 ?_
  refine lv_iload_n hx hb dX0_take_25 rfl (lv_at hl 1 rfl) ?_
  refine lv_sipush (v := 9999) hx hb dX0_take_26 (by decide) ?_
  refine my_iast (D := D) (j := j) hx hb hK hP hD hS 2 rfl (by omega) (by decide) dX0_take_29 (fun H locs hP hD hS => ?_)
  have hP : va_P D vwCl [(qh, .inr (0, [.int (bu &&& (((1 : Int32) <<< ((nI j) &&& 31)) ^^^ (-1))), .ref qf, .ref ql])), (qf, .inl (cA, 14, .inl (upd fi j 0))), (ql, .inl (cA, 14, .inl (upd la j 9999)))] H := hP
  have hD : va_D A [(qh, .inr (0, [.int (bu &&& (((1 : Int32) <<< ((nI j) &&& 31)) ^^^ (-1))), .ref qf, .ref ql])), (qf, .inl (cA, 14, .inl (upd fi j 0))), (ql, .inl (cA, 14, .inl (upd la j 9999)))] := hD
  exact WR_vret hAe hx hb hr hlk hH dX0_take_30 (by omega) (by omega) (hP.sub [0, 1, 2] rfl) hS
set_option maxHeartbeats 4000000 in
set_option maxRecDepth 100000 in
theorem c_X0_copy (l : Launch) {D : va_G} {cA : ClassId} {H0 : Heap} {qh qf ql : Nat} {bu : Int32} {fi la : Nat → Int32} {qh2 qf2 ql2 : Nat} {bu2 : Int32} {fi2 la2 : Nat → Int32} (hP : va_P D vwCl [(qh, .inr (0, [.int bu, .ref qf, .ref ql])), (qf, .inl (cA, 14, .inl fi)), (ql, .inl (cA, 14, .inl la)), (qh2, .inr (0, [.int bu2, .ref qf2, .ref ql2])), (qf2, .inl (cA, 14, .inl fi2)), (ql2, .inl (cA, 14, .inl la2))] H0) (hD0 : va_D (fun _ => True) [(qh, .inr (0, [.int bu, .ref qf, .ref ql])), (qf, .inl (cA, 14, .inl fi)), (ql, .inl (cA, 14, .inl la)), (qh2, .inr (0, [.int bu2, .ref qf2, .ref ql2])), (qf2, .inl (cA, 14, .inl fi2)), (ql2, .inl (cA, 14, .inl la2))]) : WR l yX0_copy wsX0_copy 0 0 0 0 [.ref qh, .ref qh2] D cA H0 none [(qh, .inr (0, [.int bu, .ref qf, .ref ql])), (qf, .inl (cA, 14, .inl fi)), (ql, .inl (cA, 14, .inl la)), (qh2, .inr (0, [.int bu2, .ref qf2, .ref ql2])), (qf2, .inl (cA, 14, .inl fi2)), (ql2, .inl (cA, 14, .inl la2))] [(qh, .inr (0, [.int bu2, .ref qf, .ref ql])), (qf, .inl (cA, 14, .inl (cpF fi fi2 14))), (ql, .inl (cA, 14, .inl (cpF la la2 14))), (qh2, .inr (0, [.int bu2, .ref qf2, .ref ql2])), (qf2, .inl (cA, 14, .inl fi2)), (ql2, .inl (cA, 14, .inl la2))] := by
  refine WR_of (cc := cX0_copy) (maxL := 3) (ret := none) (by decide) rfl (Nat.le_of_ble_eq_true rfl) ?_
  intro p e s m below meth c ls hx hb hml hr hown hts hlk hin2 hH hK hl
  have hown : s.vm.findClass RX0 = some m.cls := hown
  have hl : lv_has ls 3 [(0, .ref qh), (1, .ref qh2)] := hl
  have hinX0 : ∀ w ∈ wsX00, w ∈ wsX0_copy := by decide +kernel
  have hD := hD0.self (sz := H0.size)
  obtain ⟨A, hAe⟩ : ∃ A, A = va_A [(qh, .inr (0, [.int bu, .ref qf, .ref ql])), (qf, .inl (cA, 14, .inl fi)), (ql, .inl (cA, 14, .inl la)), (qh2, .inr (0, [.int bu2, .ref qf2, .ref ql2])), (qf2, .inl (cA, 14, .inl fi2)), (ql2, .inl (cA, 14, .inl la2))] H0.size := ⟨_, rfl⟩
  rw [← hAe] at hD ⊢
  have hA : ∀ q : Nat, H0.size ≤ q → A q := fun q h => by rw [hAe]; exact Or.inr h
  have hS : va_S A H0 H0 [] := va_S.rf
  refine lv_aload_n hx hb dX0_copy_0 rfl (lv_at hl 0 rfl) ?_
  refine lv_aload_n hx hb dX0_copy_1 rfl (lv_at hl 1 rfl) ?_
  refine va_get (D := D) (ci := 0) (v := .int bu2) (C := RX0) (T := TX0) (N := 3) hx hb hts hinX0 hown hK.1 hP 3 rfl rfl 0 (by decide) (hts (.fieldLink RX0 18 "CairnShells$Hearths" "burning" "I") (by decide +kernel)) (fun _ h9 => h9) rfl dX0_copy_2 ?_
  refine va_put (D := D) (ci := 0) (v := .int bu2) (ty := .int) (C := RX0) (T := TX0) (N := 3) hx hb hts hinX0 tyX0 tyX0_ok nmX0 hown hK.1 hP hD hS 0 rfl rfl 0 (by decide) (hts (.fieldLink RX0 18 "CairnShells$Hearths" "burning" "I") (by decide +kernel)) (fun _ h9 => h9) rfl (by decide +kernel) rfl rfl (Nat.le_of_ble_eq_true rfl) dX0_copy_5 (fun H locs hP hD hS => ?_)
  have hP : va_P D vwCl [(qh, .inr (0, [.int bu2, .ref qf, .ref ql])), (qf, .inl (cA, 14, .inl fi)), (ql, .inl (cA, 14, .inl la)), (qh2, .inr (0, [.int bu2, .ref qf2, .ref ql2])), (qf2, .inl (cA, 14, .inl fi2)), (ql2, .inl (cA, 14, .inl la2))] H := hP
  have hD : va_D A [(qh, .inr (0, [.int bu2, .ref qf, .ref ql])), (qf, .inl (cA, 14, .inl fi)), (ql, .inl (cA, 14, .inl la)), (qh2, .inr (0, [.int bu2, .ref qf2, .ref ql2])), (qf2, .inl (cA, 14, .inl fi2)), (ql2, .inl (cA, 14, .inl la2))] := hD
  refine lv_iconst (v := 0) hx hb dX0_copy_8 (by decide) ?_
  refine lv_istore_n (lv' := [(2, .int 0), (0, .ref qh), (1, .ref qh2)]) hx hb dX0_copy_9 rfl hl (by decide) rfl (fun ls hl => ?_)
  suffices loop : ∀ (n k : Nat) (f1 : Nat → Int32) (f2 : Nat → Int32), k ≤ 14 → 14 < k + n → f1 = cpF fi fi2 k → f2 = cpF la la2 k → ∀ (H : Heap) (locs : List Loc), va_P D vwCl [(qh, .inr (0, [.int bu2, .ref qf, .ref ql])), (qf, .inl (cA, 14, .inl f1)), (ql, .inl (cA, 14, .inl f2)), (qh2, .inr (0, [.int bu2, .ref qf2, .ref ql2])), (qf2, .inl (cA, 14, .inl fi2)), (ql2, .inl (cA, 14, .inl la2))] H → va_D A [(qh, .inr (0, [.int bu2, .ref qf, .ref ql])), (qf, .inl (cA, 14, .inl f1)), (ql, .inl (cA, 14, .inl f2)), (qh2, .inr (0, [.int bu2, .ref qf2, .ref ql2])), (qf2, .inl (cA, 14, .inl fi2)), (ql2, .inl (cA, 14, .inl la2))] → va_S A H0 H locs → ∀ ls, lv_has ls 3 [(2, .int (nI k)), (0, .ref qh), (1, .ref qh2)] → W p l e { frames := 0, cells := 0, slots := 0, locals := 0 } s m ([.ref qh, .ref qh2] : List Value).toArray below meth c H locs (0) (0) (MQ below (wrQ none D [(qh, .inr (0, [.int bu, .ref qf, .ref ql])), (qf, .inl (cA, 14, .inl fi)), (ql, .inl (cA, 14, .inl la)), (qh2, .inr (0, [.int bu2, .ref qf2, .ref ql2])), (qf2, .inl (cA, 14, .inl fi2)), (ql2, .inl (cA, 14, .inl la2))] [(qh, .inr (0, [.int bu2, .ref qf, .ref ql])), (qf, .inl (cA, 14, .inl (cpF fi fi2 14))), (ql, .inl (cA, 14, .inl (cpF la la2 14))), (qh2, .inr (0, [.int bu2, .ref qf2, .ref ql2])), (qf2, .inl (cA, 14, .inl fi2)), (ql2, .inl (cA, 14, .inl la2))] H0) ([.ref qh, .ref qh2] : List Value).toArray s 0 0 A) (F0 m 10 ls []) from loop (14 + 1) 0 fi la (by omega) (by omega) (by first | rfl | (simp [cpF_0]; done) | (simp [cpF_0]; done)) (by first | rfl | (simp [cpF_0]; done) | (simp [cpF_0]; done)) _ _ hP hD hS _ (lv_sub hl [0, 1, 2] rfl)
  intro n
  induction n with
  | zero => intro k f1 f2 hk1 hk2; exact absurd hk2 (by omega)
  | succ n ih10 =>
    intro k f1 f2 hk10 hn10 ef1 ef2 H locs hP hD hS ls hl
    refine lv_iload_n hx hb dX0_copy_10 rfl (lv_at hl 0 rfl) ?_
    refine lv_bipush (v := 14) hx hb dX0_copy_11 (by decide) ?_
    refine my_geN (x := k) (y := 14) (tgt := 46) hx hb dX0_copy_13 (by decide) (by omega) (by omega) (fun h1 => ?_) (fun h1 => ?_)
    · obtain rfl : k = 14 := by omega
      subst ef1
      subst ef2
      exact WR_vret hAe hx hb hr hlk hH dX0_copy_46 (by omega) (by omega) (hP.sub [0, 1, 2, 3, 4, 5] rfl) hS
    · refine lv_aload_n hx hb dX0_copy_16 rfl (lv_at hl 1 rfl) ?_
      refine va_get (D := D) (ci := 0) (v := .ref qf) (C := RX0) (T := TX0) (N := 3) hx hb hts hinX0 hown hK.1 hP 0 rfl rfl 1 (by decide) (hts (.fieldLink RX0 9 "CairnShells$Hearths" "first" "[I") (by decide +kernel)) (fun _ h9 => h9) rfl dX0_copy_17 ?_
      refine lv_iload_n hx hb dX0_copy_20 rfl (lv_at hl 0 rfl) ?_
      refine lv_aload_n hx hb dX0_copy_21 rfl (lv_at hl 2 rfl) ?_
      refine va_get (D := D) (ci := 0) (v := .ref qf2) (C := RX0) (T := TX0) (N := 3) hx hb hts hinX0 hown hK.1 hP 3 rfl rfl 1 (by decide) (hts (.fieldLink RX0 9 "CairnShells$Hearths" "first" "[I") (by decide +kernel)) (fun _ h9 => h9) rfl dX0_copy_22 ?_
      refine lv_iload_n hx hb dX0_copy_25 rfl (lv_at hl 0 rfl) ?_
      refine my_iald (D := D) (j := k) hx hb hK hP 4 rfl (by omega) (by decide) dX0_copy_26 ?_
      refine my_iast (D := D) (j := k) hx hb hK hP hD hS 1 rfl (by omega) (by decide) dX0_copy_27 (fun H locs hP hD hS => ?_)
      have hP : va_P D vwCl [(qh, .inr (0, [.int bu2, .ref qf, .ref ql])), (qf, .inl (cA, 14, .inl (upd f1 k (fi2 k)))), (ql, .inl (cA, 14, .inl f2)), (qh2, .inr (0, [.int bu2, .ref qf2, .ref ql2])), (qf2, .inl (cA, 14, .inl fi2)), (ql2, .inl (cA, 14, .inl la2))] H := hP
      have hD : va_D A [(qh, .inr (0, [.int bu2, .ref qf, .ref ql])), (qf, .inl (cA, 14, .inl (upd f1 k (fi2 k)))), (ql, .inl (cA, 14, .inl f2)), (qh2, .inr (0, [.int bu2, .ref qf2, .ref ql2])), (qf2, .inl (cA, 14, .inl fi2)), (ql2, .inl (cA, 14, .inl la2))] := hD
      refine lv_aload_n hx hb dX0_copy_28 rfl (lv_at hl 1 rfl) ?_
      refine va_get (D := D) (ci := 0) (v := .ref ql) (C := RX0) (T := TX0) (N := 3) hx hb hts hinX0 hown hK.1 hP 0 rfl rfl 2 (by decide) (hts (.fieldLink RX0 15 "CairnShells$Hearths" "last" "[I") (by decide +kernel)) (fun _ h9 => h9) rfl dX0_copy_29 ?_
      refine lv_iload_n hx hb dX0_copy_32 rfl (lv_at hl 0 rfl) ?_
      refine lv_aload_n hx hb dX0_copy_33 rfl (lv_at hl 2 rfl) ?_
      refine va_get (D := D) (ci := 0) (v := .ref ql2) (C := RX0) (T := TX0) (N := 3) hx hb hts hinX0 hown hK.1 hP 3 rfl rfl 2 (by decide) (hts (.fieldLink RX0 15 "CairnShells$Hearths" "last" "[I") (by decide +kernel)) (fun _ h9 => h9) rfl dX0_copy_34 ?_
      refine lv_iload_n hx hb dX0_copy_37 rfl (lv_at hl 0 rfl) ?_
      refine my_iald (D := D) (j := k) hx hb hK hP 5 rfl (by omega) (by decide) dX0_copy_38 ?_
      refine my_iast (D := D) (j := k) hx hb hK hP hD hS 2 rfl (by omega) (by decide) dX0_copy_39 (fun H locs hP hD hS => ?_)
      have hP : va_P D vwCl [(qh, .inr (0, [.int bu2, .ref qf, .ref ql])), (qf, .inl (cA, 14, .inl (upd f1 k (fi2 k)))), (ql, .inl (cA, 14, .inl (upd f2 k (la2 k)))), (qh2, .inr (0, [.int bu2, .ref qf2, .ref ql2])), (qf2, .inl (cA, 14, .inl fi2)), (ql2, .inl (cA, 14, .inl la2))] H := hP
      have hD : va_D A [(qh, .inr (0, [.int bu2, .ref qf, .ref ql])), (qf, .inl (cA, 14, .inl (upd f1 k (fi2 k)))), (ql, .inl (cA, 14, .inl (upd f2 k (la2 k)))), (qh2, .inr (0, [.int bu2, .ref qf2, .ref ql2])), (qf2, .inl (cA, 14, .inl fi2)), (ql2, .inl (cA, 14, .inl la2))] := hD
      refine lv_iinc (v := nI (k + 1)) (x := nI k) (lv' := [(2, .int (nI (k + 1))), (0, .ref qh), (1, .ref qh2)]) hx hb dX0_copy_40 hl (k := 0) rfl (nI_1 k) (by decide) rfl (fun ls hl => ?_)
      refine lv_goto (tgt := 10) hx hb dX0_copy_43 (by decide) ?_
      exact ih10 (k + 1) (upd f1 k (fi2 k)) (upd f2 k (la2 k)) (by omega) (by omega) (by subst ef1; subst ef2; first | exact cpF_s | simp [cpF_s]) (by subst ef1; subst ef2; first | exact cpF_s | simp [cpF_s]) _ _ hP hD hS _ (lv_sub hl [0, 1, 2] rfl)
set_option maxHeartbeats 4000000 in
set_option maxRecDepth 100000 in
theorem c_X0_greatestFirst (l : Launch) {D : va_G} {cA : ClassId} {H0 : Heap} {qh qf ql : Nat} {bu : Int32} {fi : Nat → Int32} (x : Int32) (hP : va_P D vwCl [(qh, .inr (0, [.int bu, .ref qf, .ref ql])), (qf, .inl (cA, 14, .inl fi))] H0) : RO l yX0_greatestFirst wsX0_greatestFirst 1 21 [.ref qh, .int x] D cA H0 (some (.int (gF fi x 14))) := by
  refine RO_of (cc := cX0_greatestFirst) (maxL := 4) (ret := (some .int)) (by decide) rfl (Nat.le_of_ble_eq_true rfl) ?_
  intro p e s m below meth c ls hx hb hml hr hown hts hlk hH hK hl
  have hown : s.vm.findClass RX0 = some m.cls := hown
  have hl : lv_has ls 4 [(0, .ref qh), (1, .int x)] := hl
  have hinX0 : ∀ w ∈ wsX00, w ∈ wsX0_greatestFirst := by decide +kernel
  refine lv_iconst (v := 0) hx hb dX0_greatestFirst_0 (by decide) ?_
  refine lv_istore_n (lv' := [(2, .int 0), (0, .ref qh), (1, .int x)]) hx hb dX0_greatestFirst_1 rfl hl (by decide) rfl (fun ls hl => ?_)
  refine lv_iconst (v := 0) hx hb dX0_greatestFirst_2 (by decide) ?_
  refine lv_istore_n (lv' := [(3, .int 0), (2, .int 0), (0, .ref qh), (1, .int x)]) hx hb dX0_greatestFirst_3 rfl hl (by decide) rfl (fun ls hl => ?_)
  suffices loop : ∀ (n k : Nat) (y : Int32), k ≤ 14 → 14 < k + n → y = gF fi x k → ∀ ls, lv_has ls 4 [(3, .int (nI k)), (2, .int y), (0, .ref qh), (1, .int x)] → W p l e { frames := 1, cells := 0, slots := 0, locals := 21 } s m ([.ref qh, .int x] : List Value).toArray below meth c H0 [] 0 0 (MQ below (roQ (some (.int (gF fi x 14))) H0) ([.ref qh, .int x] : List Value).toArray s 0 0 (fun _ => False)) (F0 m 4 ls []) from loop (14 + 1) 0 0 (by omega) (by omega) (by first | rfl | (simp []; done) | (simp []; done)) _ (lv_sub hl [0, 1, 2, 3] rfl)
  intro n
  induction n with
  | zero => intro k y hk1 hk2; exact absurd hk2 (by omega)
  | succ n ih4 =>
    intro k y hk4 hn4 ey ls hl
    refine lv_iload_n hx hb dX0_greatestFirst_4 rfl (lv_at hl 0 rfl) ?_
    refine lv_bipush (v := 14) hx hb dX0_greatestFirst_5 (by decide) ?_
    refine my_geN (x := k) (y := 14) (tgt := 35) hx hb dX0_greatestFirst_7 (by decide) (by omega) (by omega) (fun h1 => ?_) (fun h1 => ?_)
    · obtain rfl : k = 14 := by omega
      subst ey
      refine lv_iload_n hx hb dX0_greatestFirst_35 rfl (lv_at hl 1 rfl) ?_
      exact RO_zret hx hb hr hlk hH dX0_greatestFirst_36 (by rfl) (by first | rfl | simp [h1])
    · refine lv_iload_n hx hb dX0_greatestFirst_10 rfl (lv_at hl 3 rfl) ?_
      refine lv_iload_n hx hb dX0_greatestFirst_11 rfl (lv_at hl 0 rfl) ?_
      refine RO_go (va_runSN (As := [.int x, .int (nI k)]) (rest := []) ⟨hx, hb, hml, hown, hts⟩ (c_X3_has l (D := D) (cA := cA) (H0 := H0) (x := x) (j := k) (hj := by omega)) ⟨va_cnB 2 hts gX0_greatestFirst_X3_has_n28 rfl rfl rfl hK.2.1 (hts (.initialized RX3) (by decide +kernel)) (by decide +kernel) ⟨Nat.le_of_ble_eq_true rfl, Nat.le_of_ble_eq_true rfl⟩, (hts (.static yX3_has) (by decide +kernel)), trivial⟩ (cP_S hK) rfl rfl hl.1 rfl (lv_room (Nat.le_of_ble_eq_true rfl)) dX0_greatestFirst_12 ⟨by omega, by omega⟩) ?_
      refine my_ifeq_b (tgt := 29) hx hb dX0_greatestFirst_15 (by decide) (fun h2 => ?_) (fun h2 => ?_)
      · refine lv_iinc (v := nI (k + 1)) (x := nI k) (lv' := [(3, .int (nI (k + 1))), (2, .int y), (0, .ref qh), (1, .int x)]) hx hb dX0_greatestFirst_29 hl (k := 0) rfl (nI_1 k) (by decide) rfl (fun ls hl => ?_)
        refine lv_goto (tgt := 4) hx hb dX0_greatestFirst_32 (by decide) ?_
        exact ih4 (k + 1) y (by omega) (by omega) (by subst ey; first | rfl | simp [gF, imax, h1, h2]) _ (lv_sub hl [0, 1, 2, 3] rfl)
      · refine lv_iload_n hx hb dX0_greatestFirst_18 rfl (lv_at hl 1 rfl) ?_
        refine lv_aload_n hx hb dX0_greatestFirst_19 rfl (lv_at hl 2 rfl) ?_
        refine va_get (D := D) (ci := 0) (v := .ref qf) (C := RX0) (T := TX0) (N := 3) hx hb hts hinX0 hown hK.1 hP 0 rfl rfl 1 (by decide) (hts (.fieldLink RX0 9 "CairnShells$Hearths" "first" "[I") (by decide +kernel)) (fun _ h9 => h9) rfl dX0_greatestFirst_20 ?_
        refine lv_iload_n hx hb dX0_greatestFirst_23 rfl (lv_at hl 0 rfl) ?_
        refine my_iald (D := D) (j := k) hx hb hK hP 1 rfl (by omega) (by decide) dX0_greatestFirst_24 ?_
        refine va_mmax hx hb (hml.trans hl.1.symm) hown (hts (.methodLink RX0 32 Lib.Math.max.name) (by decide +kernel)) (hts (.static Lib.Math.max.name) (by decide +kernel)) (hts (.initialized "java/lang/Math") (by decide +kernel)) (hts (.code Lib.Math.max.name Lib.Math.max.code 2 (some .int)) (by decide +kernel)) (Nat.le_of_ble_eq_true rfl) (Nat.le_of_ble_eq_true rfl) (by omega) (by omega) dX0_greatestFirst_25 ?_
        refine lv_istore_n (lv' := [(2, .int (imax y (fi k))), (3, .int (nI k)), (0, .ref qh), (1, .int x)]) hx hb dX0_greatestFirst_28 rfl hl (by decide) rfl (fun ls hl => ?_)
        refine lv_iinc (v := nI (k + 1)) (x := nI k) (lv' := [(3, .int (nI (k + 1))), (2, .int (imax y (fi k))), (0, .ref qh), (1, .int x)]) hx hb dX0_greatestFirst_29 hl (k := 1) rfl (nI_1 k) (by decide) rfl (fun ls hl => ?_)
        refine lv_goto (tgt := 4) hx hb dX0_greatestFirst_32 (by decide) ?_
        exact ih4 (k + 1) (imax y (fi k)) (by omega) (by omega) (by subst ey; first | rfl | simp [gF, imax, h1, h2]) _ (lv_sub hl [0, 1, 2, 3] rfl)
set_option maxHeartbeats 4000000 in
set_option maxRecDepth 100000 in
theorem c_X0_leastLast (l : Launch) {D : va_G} {cA : ClassId} {H0 : Heap} {qh qf ql : Nat} {bu : Int32} {la : Nat → Int32} (x : Int32) (hP : va_P D vwCl [(qh, .inr (0, [.int bu, .ref qf, .ref ql])), (ql, .inl (cA, 14, .inl la))] H0) : RO l yX0_leastLast wsX0_leastLast 1 21 [.ref qh, .int x] D cA H0 (some (.int (lL la x 14))) := by
  refine RO_of (cc := cX0_leastLast) (maxL := 4) (ret := (some .int)) (by decide) rfl (Nat.le_of_ble_eq_true rfl) ?_
  intro p e s m below meth c ls hx hb hml hr hown hts hlk hH hK hl
  have hown : s.vm.findClass RX0 = some m.cls := hown
  have hl : lv_has ls 4 [(0, .ref qh), (1, .int x)] := hl
  have hinX0 : ∀ w ∈ wsX00, w ∈ wsX0_leastLast := by decide +kernel
  refine lv_sipush (v := 9999) hx hb dX0_leastLast_0 (by decide) ?_
  refine lv_istore_n (lv' := [(2, .int 9999), (0, .ref qh), (1, .int x)]) hx hb dX0_leastLast_3 rfl hl (by decide) rfl (fun ls hl => ?_)
  refine lv_iconst (v := 0) hx hb dX0_leastLast_4 (by decide) ?_
  refine lv_istore_n (lv' := [(3, .int 0), (2, .int 9999), (0, .ref qh), (1, .int x)]) hx hb dX0_leastLast_5 rfl hl (by decide) rfl (fun ls hl => ?_)
  suffices loop : ∀ (n k : Nat) (y : Int32), k ≤ 14 → 14 < k + n → y = lL la x k → ∀ ls, lv_has ls 4 [(3, .int (nI k)), (2, .int y), (0, .ref qh), (1, .int x)] → W p l e { frames := 1, cells := 0, slots := 0, locals := 21 } s m ([.ref qh, .int x] : List Value).toArray below meth c H0 [] 0 0 (MQ below (roQ (some (.int (lL la x 14))) H0) ([.ref qh, .int x] : List Value).toArray s 0 0 (fun _ => False)) (F0 m 6 ls []) from loop (14 + 1) 0 9999 (by omega) (by omega) (by first | rfl | (simp []; done) | (simp []; done)) _ (lv_sub hl [0, 1, 2, 3] rfl)
  intro n
  induction n with
  | zero => intro k y hk1 hk2; exact absurd hk2 (by omega)
  | succ n ih6 =>
    intro k y hk6 hn6 ey ls hl
    refine lv_iload_n hx hb dX0_leastLast_6 rfl (lv_at hl 0 rfl) ?_
    refine lv_bipush (v := 14) hx hb dX0_leastLast_7 (by decide) ?_
    refine my_geN (x := k) (y := 14) (tgt := 37) hx hb dX0_leastLast_9 (by decide) (by omega) (by omega) (fun h1 => ?_) (fun h1 => ?_)
    · obtain rfl : k = 14 := by omega
      subst ey
      refine lv_iload_n hx hb dX0_leastLast_37 rfl (lv_at hl 1 rfl) ?_
      exact RO_zret hx hb hr hlk hH dX0_leastLast_38 (by rfl) (by first | rfl | simp [h1])
    · refine lv_iload_n hx hb dX0_leastLast_12 rfl (lv_at hl 3 rfl) ?_
      refine lv_iload_n hx hb dX0_leastLast_13 rfl (lv_at hl 0 rfl) ?_
      refine RO_go (va_runSN (As := [.int x, .int (nI k)]) (rest := []) ⟨hx, hb, hml, hown, hts⟩ (c_X3_has l (D := D) (cA := cA) (H0 := H0) (x := x) (j := k) (hj := by omega)) ⟨va_cnB 2 hts gX0_leastLast_X3_has_n28 rfl rfl rfl hK.2.1 (hts (.initialized RX3) (by decide +kernel)) (by decide +kernel) ⟨Nat.le_of_ble_eq_true rfl, Nat.le_of_ble_eq_true rfl⟩, (hts (.static yX3_has) (by decide +kernel)), trivial⟩ (cP_S hK) rfl rfl hl.1 rfl (lv_room (Nat.le_of_ble_eq_true rfl)) dX0_leastLast_14 ⟨by omega, by omega⟩) ?_
      refine my_ifeq_b (tgt := 31) hx hb dX0_leastLast_17 (by decide) (fun h2 => ?_) (fun h2 => ?_)
      · refine lv_iinc (v := nI (k + 1)) (x := nI k) (lv' := [(3, .int (nI (k + 1))), (2, .int y), (0, .ref qh), (1, .int x)]) hx hb dX0_leastLast_31 hl (k := 0) rfl (nI_1 k) (by decide) rfl (fun ls hl => ?_)
        refine lv_goto (tgt := 6) hx hb dX0_leastLast_34 (by decide) ?_
        exact ih6 (k + 1) y (by omega) (by omega) (by subst ey; first | rfl | simp [lL, imin, h1, h2]) _ (lv_sub hl [0, 1, 2, 3] rfl)
      · refine lv_iload_n hx hb dX0_leastLast_20 rfl (lv_at hl 1 rfl) ?_
        refine lv_aload_n hx hb dX0_leastLast_21 rfl (lv_at hl 2 rfl) ?_
        refine va_get (D := D) (ci := 0) (v := .ref ql) (C := RX0) (T := TX0) (N := 3) hx hb hts hinX0 hown hK.1 hP 0 rfl rfl 2 (by decide) (hts (.fieldLink RX0 15 "CairnShells$Hearths" "last" "[I") (by decide +kernel)) (fun _ h9 => h9) rfl dX0_leastLast_22 ?_
        refine lv_iload_n hx hb dX0_leastLast_25 rfl (lv_at hl 0 rfl) ?_
        refine my_iald (D := D) (j := k) hx hb hK hP 1 rfl (by omega) (by decide) dX0_leastLast_26 ?_
        refine va_mmin hx hb (hml.trans hl.1.symm) hown (hts (.methodLink RX0 38 Lib.Math.min.name) (by decide +kernel)) (hts (.static Lib.Math.min.name) (by decide +kernel)) (hts (.initialized "java/lang/Math") (by decide +kernel)) (hts (.code Lib.Math.min.name Lib.Math.min.code 2 (some .int)) (by decide +kernel)) (Nat.le_of_ble_eq_true rfl) (Nat.le_of_ble_eq_true rfl) (by omega) (by omega) dX0_leastLast_27 ?_
        refine lv_istore_n (lv' := [(2, .int (imin y (la k))), (3, .int (nI k)), (0, .ref qh), (1, .int x)]) hx hb dX0_leastLast_30 rfl hl (by decide) rfl (fun ls hl => ?_)
        refine lv_iinc (v := nI (k + 1)) (x := nI k) (lv' := [(3, .int (nI (k + 1))), (2, .int (imin y (la k))), (0, .ref qh), (1, .int x)]) hx hb dX0_leastLast_31 hl (k := 1) rfl (nI_1 k) (by decide) rfl (fun ls hl => ?_)
        refine lv_goto (tgt := 6) hx hb dX0_leastLast_34 (by decide) ?_
        exact ih6 (k + 1) (imin y (la k)) (by omega) (by omega) (by subst ey; first | rfl | simp [lL, imin, h1, h2]) _ (lv_sub hl [0, 1, 2, 3] rfl)
set_option maxHeartbeats 4000000 in
set_option maxRecDepth 100000 in
theorem c_X1_put (l : Launch) {D : va_G} {cA : ClassId} {H0 : Heap} {qv qm : Nat} {mn : Nat → Int32} (j : Nat) (kd : Nat) (x : Int32) (hj : j < 14) (hkd : kd < 4) (hP : va_P D vwCl [(qv, .inr (1, [.ref qm])), (qm, .inl (cA, 56, .inl mn))] H0) (hD0 : va_D (fun _ => True) [(qv, .inr (1, [.ref qm])), (qm, .inl (cA, 56, .inl mn))]) : WR l yX1_put wsX1_put 0 0 0 0 [.ref qv, .int (nI j), .int (nI kd), .int x] D cA H0 (some (.int (mn (j * 4 + kd)))) [(qv, .inr (1, [.ref qm])), (qm, .inl (cA, 56, .inl mn))] [(qv, .inr (1, [.ref qm])), (qm, .inl (cA, 56, .inl (upd mn (j * 4 + kd) x)))] := by
  refine WR_of (cc := cX1_put) (maxL := 6) (ret := (some .int)) (by decide) rfl (Nat.le_of_ble_eq_true rfl) ?_
  intro p e s m below meth c ls hx hb hml hr hown hts hlk hin2 hH hK hl
  have hown : s.vm.findClass RX1 = some m.cls := hown
  have hl : lv_has ls 6 [(0, .ref qv), (1, .int (nI j)), (2, .int (nI kd)), (3, .int x)] := hl
  have hinX1 : ∀ w ∈ wsX10, w ∈ wsX1_put := by decide +kernel
  have hD := hD0.self (sz := H0.size)
  obtain ⟨A, hAe⟩ : ∃ A, A = va_A [(qv, .inr (1, [.ref qm])), (qm, .inl (cA, 56, .inl mn))] H0.size := ⟨_, rfl⟩
  rw [← hAe] at hD ⊢
  have hA : ∀ q : Nat, H0.size ≤ q → A q := fun q h => by rw [hAe]; exact Or.inr h
  have hS : va_S A H0 H0 [] := va_S.rf
  refine lv_iload_n hx hb dX1_put_0 rfl (lv_at hl 1 rfl) ?_
  refine lv_iconst (v := 4) hx hb dX1_put_1 (by decide) ?_
  refine my_imulN (x := j) (y := 4) hx hb dX1_put_2 ?_
  refine lv_iload_n hx hb dX1_put_3 rfl (lv_at hl 2 rfl) ?_
  refine my_iaddN (x := j * 4) (y := kd) hx hb dX1_put_4 ?_
  refine lv_istore (lv' := [(4, .int (nI ((j * 4) + kd))), (0, .ref qv), (1, .int (nI j)), (2, .int (nI kd)), (3, .int x)]) hx hb dX1_put_5 hl (by decide) rfl (fun ls hl => ?_)
  refine lv_aload_n hx hb dX1_put_7 rfl (lv_at hl 1 rfl) ?_
  refine va_get (D := D) (ci := 1) (v := .ref qm) (C := RX1) (T := TX1) (N := 1) hx hb hts hinX1 hown hK.1 hP 0 rfl rfl 0 (by decide) (hts (.fieldLink RX1 9 "CairnShells$Sieve" "many" "[I") (by decide +kernel)) (fun _ h9 => h9) rfl dX1_put_8 ?_
  refine lv_iload hx hb dX1_put_11 (lv_at hl 0 rfl) ?_
  refine my_iald (D := D) (j := (j * 4) + kd) hx hb hK hP 1 rfl (by omega) (by decide) dX1_put_13 ?_
  refine lv_istore (lv' := [(5, .int (mn ((j * 4) + kd))), (4, .int (nI ((j * 4) + kd))), (0, .ref qv), (1, .int (nI j)), (2, .int (nI kd)), (3, .int x)]) hx hb dX1_put_14 hl (by decide) rfl (fun ls hl => ?_)
  refine lv_aload_n hx hb dX1_put_16 rfl (lv_at hl 2 rfl) ?_
  refine va_get (D := D) (ci := 1) (v := .ref qm) (C := RX1) (T := TX1) (N := 1) hx hb hts hinX1 hown hK.1 hP 0 rfl rfl 0 (by decide) (hts (.fieldLink RX1 9 "CairnShells$Sieve" "many" "[I") (by decide +kernel)) (fun _ h9 => h9) rfl dX1_put_17 ?_
  refine lv_iload hx hb dX1_put_20 (lv_at hl 1 rfl) ?_
  refine lv_iload_n hx hb dX1_put_22 rfl (lv_at hl 5 rfl) ?_
  refine my_iast (D := D) (j := (j * 4) + kd) hx hb hK hP hD hS 1 rfl (by omega) (by decide) dX1_put_23 (fun H locs hP hD hS => ?_)
  have hP : va_P D vwCl [(qv, .inr (1, [.ref qm])), (qm, .inl (cA, 56, .inl (upd mn ((j * 4) + kd) x)))] H := hP
  have hD : va_D A [(qv, .inr (1, [.ref qm])), (qm, .inl (cA, 56, .inl (upd mn ((j * 4) + kd) x)))] := hD
  refine lv_iload hx hb dX1_put_24 (lv_at hl 0 rfl) ?_
  exact WR_zret hAe hx hb hr hlk hH dX1_put_26 (by omega) (by omega) (hP.sub [0, 1] rfl) hS (by rfl) rfl
set_option maxHeartbeats 4000000 in
set_option maxRecDepth 100000 in
theorem c_X1_sum (l : Launch) {D : va_G} {cA : ClassId} {H0 : Heap} {qv qm : Nat} {mn : Nat → Int32} (x : Int32) (kd : Nat) (hkd : kd < 4) (hP : va_P D vwCl [(qv, .inr (1, [.ref qm])), (qm, .inl (cA, 56, .inl mn))] H0) : RO l yX1_sum wsX1_sum 1 21 [.ref qv, .int x, .int (nI kd)] D cA H0 (some (.int (sS mn x kd 14))) := by
  refine RO_of (cc := cX1_sum) (maxL := 5) (ret := (some .int)) (by decide) rfl (Nat.le_of_ble_eq_true rfl) ?_
  intro p e s m below meth c ls hx hb hml hr hown hts hlk hH hK hl
  have hown : s.vm.findClass RX1 = some m.cls := hown
  have hl : lv_has ls 5 [(0, .ref qv), (1, .int x), (2, .int (nI kd))] := hl
  have hinX1 : ∀ w ∈ wsX10, w ∈ wsX1_sum := by decide +kernel
  refine lv_iconst (v := 0) hx hb dX1_sum_0 (by decide) ?_
  refine lv_istore_n (lv' := [(3, .int 0), (0, .ref qv), (1, .int x), (2, .int (nI kd))]) hx hb dX1_sum_1 rfl hl (by decide) rfl (fun ls hl => ?_)
  refine lv_iconst (v := 0) hx hb dX1_sum_2 (by decide) ?_
  refine lv_istore (lv' := [(4, .int 0), (3, .int 0), (0, .ref qv), (1, .int x), (2, .int (nI kd))]) hx hb dX1_sum_3 hl (by decide) rfl (fun ls hl => ?_)
  suffices loop : ∀ (n k : Nat) (y : Int32), k ≤ 14 → 14 < k + n → y = sS mn x kd k → ∀ ls, lv_has ls 5 [(4, .int (nI k)), (3, .int y), (0, .ref qv), (1, .int x), (2, .int (nI kd))] → W p l e { frames := 1, cells := 0, slots := 0, locals := 21 } s m ([.ref qv, .int x, .int (nI kd)] : List Value).toArray below meth c H0 [] 0 0 (MQ below (roQ (some (.int (sS mn x kd 14))) H0) ([.ref qv, .int x, .int (nI kd)] : List Value).toArray s 0 0 (fun _ => False)) (F0 m 5 ls []) from loop (14 + 1) 0 0 (by omega) (by omega) (by first | rfl | (simp []; done) | (simp []; done)) _ (lv_sub hl [0, 1, 2, 3, 4] rfl)
  intro n
  induction n with
  | zero => intro k y hk1 hk2; exact absurd hk2 (by omega)
  | succ n ih5 =>
    intro k y hk5 hn5 ey ls hl
    refine lv_iload hx hb dX1_sum_5 (lv_at hl 0 rfl) ?_
    refine lv_bipush (v := 14) hx hb dX1_sum_7 (by decide) ?_
    refine my_geN (x := k) (y := 14) (tgt := 41) hx hb dX1_sum_9 (by decide) (by omega) (by omega) (fun h1 => ?_) (fun h1 => ?_)
    · obtain rfl : k = 14 := by omega
      subst ey
      refine lv_iload_n hx hb dX1_sum_41 rfl (lv_at hl 1 rfl) ?_
      exact RO_zret hx hb hr hlk hH dX1_sum_42 (by rfl) (by first | rfl | simp [h1])
    · refine lv_iload_n hx hb dX1_sum_12 rfl (lv_at hl 3 rfl) ?_
      refine lv_iload hx hb dX1_sum_13 (lv_at hl 0 rfl) ?_
      refine RO_go (va_runSN (As := [.int x, .int (nI k)]) (rest := []) ⟨hx, hb, hml, hown, hts⟩ (c_X3_has l (D := D) (cA := cA) (H0 := H0) (x := x) (j := k) (hj := by omega)) ⟨va_cnB 2 hts gX1_sum_X3_has_n15 rfl rfl rfl hK.2.2.1 (hts (.initialized RX3) (by decide +kernel)) (by decide +kernel) ⟨Nat.le_of_ble_eq_true rfl, Nat.le_of_ble_eq_true rfl⟩, (hts (.static yX3_has) (by decide +kernel)), trivial⟩ (cP_S hK) rfl rfl hl.1 rfl (lv_room (Nat.le_of_ble_eq_true rfl)) dX1_sum_15 ⟨by omega, by omega⟩) ?_
      refine my_ifeq_b (tgt := 35) hx hb dX1_sum_18 (by decide) (fun h2 => ?_) (fun h2 => ?_)
      · refine lv_iinc (v := nI (k + 1)) (x := nI k) (lv' := [(4, .int (nI (k + 1))), (3, .int y), (0, .ref qv), (1, .int x), (2, .int (nI kd))]) hx hb dX1_sum_35 hl (k := 0) rfl (nI_1 k) (by decide) rfl (fun ls hl => ?_)
        refine lv_goto (tgt := 5) hx hb dX1_sum_38 (by decide) ?_
        exact ih5 (k + 1) y (by omega) (by omega) (by subst ey; first | rfl | simp [sS, h1, h2]) _ (lv_sub hl [0, 1, 2, 3, 4] rfl)
      · refine lv_iload_n hx hb dX1_sum_21 rfl (lv_at hl 1 rfl) ?_
        refine lv_aload_n hx hb dX1_sum_22 rfl (lv_at hl 2 rfl) ?_
        refine va_get (D := D) (ci := 1) (v := .ref qm) (C := RX1) (T := TX1) (N := 1) hx hb hts hinX1 hown hK.1 hP 0 rfl rfl 0 (by decide) (hts (.fieldLink RX1 9 "CairnShells$Sieve" "many" "[I") (by decide +kernel)) (fun _ h9 => h9) rfl dX1_sum_23 ?_
        refine lv_iload hx hb dX1_sum_26 (lv_at hl 0 rfl) ?_
        refine lv_iconst (v := 4) hx hb dX1_sum_28 (by decide) ?_
        refine my_imulN (x := k) (y := 4) hx hb dX1_sum_29 ?_
        refine lv_iload_n hx hb dX1_sum_30 rfl (lv_at hl 4 rfl) ?_
        refine my_iaddN (x := k * 4) (y := kd) hx hb dX1_sum_31 ?_
        refine my_iald (D := D) (j := (k * 4) + kd) hx hb hK hP 1 rfl (by omega) (by decide) dX1_sum_32 ?_
        refine lv_iadd hx hb dX1_sum_33 ?_
        refine lv_istore_n (lv' := [(3, .int (y + (mn ((k * 4) + kd)))), (4, .int (nI k)), (0, .ref qv), (1, .int x), (2, .int (nI kd))]) hx hb dX1_sum_34 rfl hl (by decide) rfl (fun ls hl => ?_)
        refine lv_iinc (v := nI (k + 1)) (x := nI k) (lv' := [(4, .int (nI (k + 1))), (3, .int (y + (mn ((k * 4) + kd)))), (0, .ref qv), (1, .int x), (2, .int (nI kd))]) hx hb dX1_sum_35 hl (k := 1) rfl (nI_1 k) (by decide) rfl (fun ls hl => ?_)
        refine lv_goto (tgt := 5) hx hb dX1_sum_38 (by decide) ?_
        exact ih5 (k + 1) (y + (mn ((k * 4) + kd))) (by omega) (by omega) (by subst ey; first | rfl | simp [sS, h1, h2]) _ (lv_sub hl [0, 1, 2, 3, 4] rfl)
set_option maxHeartbeats 4000000 in
set_option maxRecDepth 100000 in
theorem c_X1_all (l : Launch) {D : va_G} {cA : ClassId} {H0 : Heap} {qv qm : Nat} {mn : Nat → Int32} (hP : va_P D vwCl [(qv, .inr (1, [.ref qm])), (qm, .inl (cA, 56, .inl mn))] H0) : RO l yX1_all wsX1_all 0 0 [.ref qv] D cA H0 (some (.int (sI mn 56))) := by
  refine RO_of (cc := cX1_all) (maxL := 3) (ret := (some .int)) (by decide) rfl (Nat.le_of_ble_eq_true rfl) ?_
  intro p e s m below meth c ls hx hb hml hr hown hts hlk hH hK hl
  have hown : s.vm.findClass RX1 = some m.cls := hown
  have hl : lv_has ls 3 [(0, .ref qv)] := hl
  have hinX1 : ∀ w ∈ wsX10, w ∈ wsX1_all := by decide +kernel
  refine lv_iconst (v := 0) hx hb dX1_all_0 (by decide) ?_
  refine lv_istore_n (lv' := [(1, .int 0), (0, .ref qv)]) hx hb dX1_all_1 rfl hl (by decide) rfl (fun ls hl => ?_)
  refine lv_iconst (v := 0) hx hb dX1_all_2 (by decide) ?_
  refine lv_istore_n (lv' := [(2, .int 0), (1, .int 0), (0, .ref qv)]) hx hb dX1_all_3 rfl hl (by decide) rfl (fun ls hl => ?_)
  suffices loop : ∀ (n k : Nat) (y : Int32), k ≤ 56 → 56 < k + n → y = sI mn k → ∀ ls, lv_has ls 3 [(2, .int (nI k)), (1, .int y), (0, .ref qv)] → W p l e { frames := 0, cells := 0, slots := 0, locals := 0 } s m ([.ref qv] : List Value).toArray below meth c H0 [] 0 0 (MQ below (roQ (some (.int (sI mn 56))) H0) ([.ref qv] : List Value).toArray s 0 0 (fun _ => False)) (F0 m 4 ls []) from loop (56 + 1) 0 0 (by omega) (by omega) (by first | rfl | (simp []; done) | (simp []; done)) _ (lv_sub hl [0, 1, 2] rfl)
  intro n
  induction n with
  | zero => intro k y hk1 hk2; exact absurd hk2 (by omega)
  | succ n ih4 =>
    intro k y hk4 hn4 ey ls hl
    refine lv_iload_n hx hb dX1_all_4 rfl (lv_at hl 0 rfl) ?_
    refine lv_aload_n hx hb dX1_all_5 rfl (lv_at hl 2 rfl) ?_
    refine va_get (D := D) (ci := 1) (v := .ref qm) (C := RX1) (T := TX1) (N := 1) hx hb hts hinX1 hown hK.1 hP 0 rfl rfl 0 (by decide) (hts (.fieldLink RX1 9 "CairnShells$Sieve" "many" "[I") (by decide +kernel)) (fun _ h9 => h9) rfl dX1_all_6 ?_
    refine va_alen (D := D) hx hb hK.1 hP 1 0 rfl rfl (v := 56) rfl dX1_all_9 ?_
    refine my_geN (x := k) (y := 56) (tgt := 28) hx hb dX1_all_10 (by decide) (by omega) (by omega) (fun h1 => ?_) (fun h1 => ?_)
    · obtain rfl : k = 56 := by omega
      subst ey
      refine lv_iload_n hx hb dX1_all_28 rfl (lv_at hl 1 rfl) ?_
      exact RO_zret hx hb hr hlk hH dX1_all_29 (by rfl) (by first | rfl | simp [h1])
    · refine lv_iload_n hx hb dX1_all_13 rfl (lv_at hl 1 rfl) ?_
      refine lv_aload_n hx hb dX1_all_14 rfl (lv_at hl 2 rfl) ?_
      refine va_get (D := D) (ci := 1) (v := .ref qm) (C := RX1) (T := TX1) (N := 1) hx hb hts hinX1 hown hK.1 hP 0 rfl rfl 0 (by decide) (hts (.fieldLink RX1 9 "CairnShells$Sieve" "many" "[I") (by decide +kernel)) (fun _ h9 => h9) rfl dX1_all_15 ?_
      refine lv_iload_n hx hb dX1_all_18 rfl (lv_at hl 0 rfl) ?_
      refine my_iald (D := D) (j := k) hx hb hK hP 1 rfl (by omega) (by decide) dX1_all_19 ?_
      refine lv_iadd hx hb dX1_all_20 ?_
      refine lv_istore_n (lv' := [(1, .int (y + (mn k))), (2, .int (nI k)), (0, .ref qv)]) hx hb dX1_all_21 rfl hl (by decide) rfl (fun ls hl => ?_)
      refine lv_iinc (v := nI (k + 1)) (x := nI k) (lv' := [(2, .int (nI (k + 1))), (1, .int (y + (mn k))), (0, .ref qv)]) hx hb dX1_all_22 hl (k := 1) rfl (nI_1 k) (by decide) rfl (fun ls hl => ?_)
      refine lv_goto (tgt := 4) hx hb dX1_all_25 (by decide) ?_
      exact ih4 (k + 1) (y + (mn k)) (by omega) (by omega) (by subst ey; first | rfl | simp [sI, h1]) _ (lv_sub hl [0, 1, 2] rfl)
set_option maxHeartbeats 4000000 in
set_option maxRecDepth 100000 in
theorem c_X2_size (l : Launch) {D : va_G} {cA : ClassId} {H0 : Heap} {qs qal qbe qto qod qph N : Nat} (hP : va_P D vwCl [(qs, .inr (2, [.int (nI N), .ref qal, .ref qbe, .ref qto, .ref qod, .ref qph]))] H0) : RO l yX2_size wsX2_size 0 0 [.ref qs] D cA H0 (some (.int (nI N))) := by
  refine RO_of (cc := cX2_size) (maxL := 1) (ret := (some .int)) (by decide) rfl (Nat.le_of_ble_eq_true rfl) ?_
  intro p e s m below meth c ls hx hb hml hr hown hts hlk hH hK hl
  have hown : s.vm.findClass RX2 = some m.cls := hown
  have hl : lv_has ls 1 [(0, .ref qs)] := hl
  have hinX2 : ∀ w ∈ wsX20, w ∈ wsX2_size := by decide +kernel
  refine lv_aload_n hx hb dX2_size_0 rfl (lv_at hl 0 rfl) ?_
  refine va_get (D := D) (ci := 2) (v := .int (nI N)) (C := RX2) (T := TX2) (N := 6) hx hb hts hinX2 hown hK.1 hP 0 rfl rfl 0 (by decide) (hts (.fieldLink RX2 27 "CairnShells$Strata" "layers" "I") (by decide +kernel)) (fun _ h9 => h9) rfl dX2_size_1 ?_
  exact RO_zret hx hb hr hlk hH dX2_size_4 (by rfl) rfl
set_option maxHeartbeats 4000000 in
set_option maxRecDepth 100000 in
theorem c_X2_alike (l : Launch) {D : va_G} {cA : ClassId} {H0 : Heap} {qs qal qbe qto qod qph N : Nat} {al : Nat → Int32} (j : Nat) (hj : j < 14) (hP : va_P D vwCl [(qs, .inr (2, [.int (nI N), .ref qal, .ref qbe, .ref qto, .ref qod, .ref qph])), (qal, .inl (cA, 14, .inl al))] H0) : RO l yX2_alike wsX2_alike 0 0 [.ref qs, .int (nI j)] D cA H0 (some (.int (al j))) := by
  refine RO_of (cc := cX2_alike) (maxL := 2) (ret := (some .int)) (by decide) rfl (Nat.le_of_ble_eq_true rfl) ?_
  intro p e s m below meth c ls hx hb hml hr hown hts hlk hH hK hl
  have hown : s.vm.findClass RX2 = some m.cls := hown
  have hl : lv_has ls 2 [(0, .ref qs), (1, .int (nI j))] := hl
  have hinX2 : ∀ w ∈ wsX20, w ∈ wsX2_alike := by decide +kernel
  refine lv_aload_n hx hb dX2_alike_0 rfl (lv_at hl 0 rfl) ?_
  refine va_get (D := D) (ci := 2) (v := .ref qal) (C := RX2) (T := TX2) (N := 6) hx hb hts hinX2 hown hK.1 hP 0 rfl rfl 1 (by decide) (hts (.fieldLink RX2 9 "CairnShells$Strata" "alikes" "[I") (by decide +kernel)) (fun _ h9 => h9) rfl dX2_alike_1 ?_
  refine lv_iload_n hx hb dX2_alike_4 rfl (lv_at hl 1 rfl) ?_
  refine my_iald (D := D) (j := j) hx hb hK hP 1 rfl (by omega) (by decide) dX2_alike_5 ?_
  exact RO_zret hx hb hr hlk hH dX2_alike_6 (by rfl) rfl
set_option maxHeartbeats 4000000 in
set_option maxRecDepth 100000 in
theorem c_X2_below (l : Launch) {D : va_G} {cA : ClassId} {H0 : Heap} {qs qal qbe qto qod qph N : Nat} {be : Nat → Int32} (j : Nat) (hj : j < 14) (hP : va_P D vwCl [(qs, .inr (2, [.int (nI N), .ref qal, .ref qbe, .ref qto, .ref qod, .ref qph])), (qbe, .inl (cA, 14, .inl be))] H0) : RO l yX2_below wsX2_below 0 0 [.ref qs, .int (nI j)] D cA H0 (some (.int (be j))) := by
  refine RO_of (cc := cX2_below) (maxL := 2) (ret := (some .int)) (by decide) rfl (Nat.le_of_ble_eq_true rfl) ?_
  intro p e s m below meth c ls hx hb hml hr hown hts hlk hH hK hl
  have hown : s.vm.findClass RX2 = some m.cls := hown
  have hl : lv_has ls 2 [(0, .ref qs), (1, .int (nI j))] := hl
  have hinX2 : ∀ w ∈ wsX20, w ∈ wsX2_below := by decide +kernel
  refine lv_aload_n hx hb dX2_below_0 rfl (lv_at hl 0 rfl) ?_
  refine va_get (D := D) (ci := 2) (v := .ref qbe) (C := RX2) (T := TX2) (N := 6) hx hb hts hinX2 hown hK.1 hP 0 rfl rfl 2 (by decide) (hts (.fieldLink RX2 15 "CairnShells$Strata" "belows" "[I") (by decide +kernel)) (fun _ h9 => h9) rfl dX2_below_1 ?_
  refine lv_iload_n hx hb dX2_below_4 rfl (lv_at hl 1 rfl) ?_
  refine my_iald (D := D) (j := j) hx hb hK hP 1 rfl (by omega) (by decide) dX2_below_5 ?_
  exact RO_zret hx hb hr hlk hH dX2_below_6 (by rfl) rfl
set_option maxHeartbeats 4000000 in
set_option maxRecDepth 100000 in
theorem c_X2_onTop (l : Launch) {D : va_G} {cA : ClassId} {H0 : Heap} {qs qal qbe qto qod qph N : Nat} {to : Nat → Int32} (j : Nat) (hj : j < 14) (hP : va_P D vwCl [(qs, .inr (2, [.int (nI N), .ref qal, .ref qbe, .ref qto, .ref qod, .ref qph])), (qto, .inl (cA, 14, .inl to))] H0) : RO l yX2_onTop wsX2_onTop 0 0 [.ref qs, .int (nI j)] D cA H0 (some (.int (to j))) := by
  refine RO_of (cc := cX2_onTop) (maxL := 2) (ret := (some .int)) (by decide) rfl (Nat.le_of_ble_eq_true rfl) ?_
  intro p e s m below meth c ls hx hb hml hr hown hts hlk hH hK hl
  have hown : s.vm.findClass RX2 = some m.cls := hown
  have hl : lv_has ls 2 [(0, .ref qs), (1, .int (nI j))] := hl
  have hinX2 : ∀ w ∈ wsX20, w ∈ wsX2_onTop := by decide +kernel
  refine lv_aload_n hx hb dX2_onTop_0 rfl (lv_at hl 0 rfl) ?_
  refine va_get (D := D) (ci := 2) (v := .ref qto) (C := RX2) (T := TX2) (N := 6) hx hb hts hinX2 hown hK.1 hP 0 rfl rfl 3 (by decide) (hts (.fieldLink RX2 18 "CairnShells$Strata" "tops" "[I") (by decide +kernel)) (fun _ h9 => h9) rfl dX2_onTop_1 ?_
  refine lv_iload_n hx hb dX2_onTop_4 rfl (lv_at hl 1 rfl) ?_
  refine my_iald (D := D) (j := j) hx hb hK hP 1 rfl (by omega) (by decide) dX2_onTop_5 ?_
  exact RO_zret hx hb hr hlk hH dX2_onTop_6 (by rfl) rfl
set_option maxHeartbeats 4000000 in
set_option maxRecDepth 100000 in
theorem c_X2_placed (l : Launch) {D : va_G} {cA : ClassId} {H0 : Heap} {qs qal qbe qto qod qph N : Nat} {od : Nat → Int32} (j : Nat) (hj : j < 14) (hP : va_P D vwCl [(qs, .inr (2, [.int (nI N), .ref qal, .ref qbe, .ref qto, .ref qod, .ref qph])), (qod, .inl (cA, 14, .inl od))] H0) : RO l yX2_placed wsX2_placed 0 0 [.ref qs, .int (nI j)] D cA H0 (some (.int (od j))) := by
  refine RO_of (cc := cX2_placed) (maxL := 2) (ret := (some .int)) (by decide) rfl (Nat.le_of_ble_eq_true rfl) ?_
  intro p e s m below meth c ls hx hb hml hr hown hts hlk hH hK hl
  have hown : s.vm.findClass RX2 = some m.cls := hown
  have hl : lv_has ls 2 [(0, .ref qs), (1, .int (nI j))] := hl
  have hinX2 : ∀ w ∈ wsX20, w ∈ wsX2_placed := by decide +kernel
  refine lv_aload_n hx hb dX2_placed_0 rfl (lv_at hl 0 rfl) ?_
  refine va_get (D := D) (ci := 2) (v := .ref qod) (C := RX2) (T := TX2) (N := 6) hx hb hts hinX2 hown hK.1 hP 0 rfl rfl 4 (by decide) (hts (.fieldLink RX2 21 "CairnShells$Strata" "order" "[I") (by decide +kernel)) (fun _ h9 => h9) rfl dX2_placed_1 ?_
  refine lv_iload_n hx hb dX2_placed_4 rfl (lv_at hl 1 rfl) ?_
  refine my_iald (D := D) (j := j) hx hb hK hP 1 rfl (by omega) (by decide) dX2_placed_5 ?_
  exact RO_zret hx hb hr hlk hH dX2_placed_6 (by rfl) rfl
set_option maxHeartbeats 4000000 in
set_option maxRecDepth 100000 in
theorem c_X2_phase (l : Launch) {D : va_G} {cA : ClassId} {H0 : Heap} {qs qal qbe qto qod qph N : Nat} {ph : Nat → Int32} (j : Nat) (hj : j < 14) (hP : va_P D vwCl [(qs, .inr (2, [.int (nI N), .ref qal, .ref qbe, .ref qto, .ref qod, .ref qph])), (qph, .inl (cA, 14, .inl ph))] H0) : RO l yX2_phase wsX2_phase 0 0 [.ref qs, .int (nI j)] D cA H0 (some (.int (ph j))) := by
  refine RO_of (cc := cX2_phase) (maxL := 2) (ret := (some .int)) (by decide) rfl (Nat.le_of_ble_eq_true rfl) ?_
  intro p e s m below meth c ls hx hb hml hr hown hts hlk hH hK hl
  have hown : s.vm.findClass RX2 = some m.cls := hown
  have hl : lv_has ls 2 [(0, .ref qs), (1, .int (nI j))] := hl
  have hinX2 : ∀ w ∈ wsX20, w ∈ wsX2_phase := by decide +kernel
  refine lv_aload_n hx hb dX2_phase_0 rfl (lv_at hl 0 rfl) ?_
  refine va_get (D := D) (ci := 2) (v := .ref qph) (C := RX2) (T := TX2) (N := 6) hx hb hts hinX2 hown hK.1 hP 0 rfl rfl 5 (by decide) (hts (.fieldLink RX2 24 "CairnShells$Strata" "phaseOf" "[I") (by decide +kernel)) (fun _ h9 => h9) rfl dX2_phase_1 ?_
  refine lv_iload_n hx hb dX2_phase_4 rfl (lv_at hl 1 rfl) ?_
  refine my_iald (D := D) (j := j) hx hb hK hP 1 rfl (by omega) (by decide) dX2_phase_5 ?_
  exact RO_zret hx hb hr hlk hH dX2_phase_6 (by rfl) rfl
set_option maxHeartbeats 4000000 in
set_option maxRecDepth 100000 in
theorem c_X2_isLater (l : Launch) {D : va_G} {cA : ClassId} {H0 : Heap} {qs qal qbe qto qod qph N : Nat} {be : Nat → Int32} (i : Nat) (j : Nat) (hi : i < 14) (hj : j < 14) (hP : va_P D vwCl [(qs, .inr (2, [.int (nI N), .ref qal, .ref qbe, .ref qto, .ref qod, .ref qph])), (qbe, .inl (cA, 14, .inl be))] H0) : RO l yX2_isLater wsX2_isLater 1 21 [.ref qs, .int (nI i), .int (nI j)] D cA H0 (some (.int (bI (bt (be i) j)))) := by
  refine RO_of (cc := cX2_isLater) (maxL := 3) (ret := (some .boolean)) (by decide) rfl (Nat.le_of_ble_eq_true rfl) ?_
  intro p e s m below meth c ls hx hb hml hr hown hts hlk hH hK hl
  have hown : s.vm.findClass RX2 = some m.cls := hown
  have hl : lv_has ls 3 [(0, .ref qs), (1, .int (nI i)), (2, .int (nI j))] := hl
  have hinX2 : ∀ w ∈ wsX20, w ∈ wsX2_isLater := by decide +kernel
  refine lv_aload_n hx hb dX2_isLater_0 rfl (lv_at hl 0 rfl) ?_
  refine va_get (D := D) (ci := 2) (v := .ref qbe) (C := RX2) (T := TX2) (N := 6) hx hb hts hinX2 hown hK.1 hP 0 rfl rfl 2 (by decide) (hts (.fieldLink RX2 15 "CairnShells$Strata" "belows" "[I") (by decide +kernel)) (fun _ h9 => h9) rfl dX2_isLater_1 ?_
  refine lv_iload_n hx hb dX2_isLater_4 rfl (lv_at hl 1 rfl) ?_
  refine my_iald (D := D) (j := i) hx hb hK hP 1 rfl (by omega) (by decide) dX2_isLater_5 ?_
  refine lv_iload_n hx hb dX2_isLater_6 rfl (lv_at hl 2 rfl) ?_
  refine RO_go (va_runSN (As := [.int (be i), .int (nI j)]) (rest := []) ⟨hx, hb, hml, hown, hts⟩ (c_X3_has l (D := D) (cA := cA) (H0 := H0) (x := be i) (j := j) (hj := by omega)) ⟨va_cnB 2 hts gX2_isLater_X3_has_n31 rfl rfl rfl hK.2.2.2.1 (hts (.initialized RX3) (by decide +kernel)) (by decide +kernel) ⟨Nat.le_of_ble_eq_true rfl, Nat.le_of_ble_eq_true rfl⟩, (hts (.static yX3_has) (by decide +kernel)), trivial⟩ (cP_S hK) rfl rfl hl.1 rfl (lv_room (Nat.le_of_ble_eq_true rfl)) dX2_isLater_7 ⟨by omega, by omega⟩) ?_
  exact RO_zret hx hb hr hlk hH dX2_isLater_10 (bI_nar _) rfl
set_option maxHeartbeats 4000000 in
set_option maxRecDepth 100000 in
theorem c_X2_refusesAbove (l : Launch) {D : va_G} {cA : ClassId} {H0 : Heap} {qs qal qbe qto qod qph N : Nat} {al be : Nat → Int32} (i : Nat) (j : Nat) (hi : i < 14) (hj : j < 14) (hP : va_P D vwCl [(qs, .inr (2, [.int (nI N), .ref qal, .ref qbe, .ref qto, .ref qod, .ref qph])), (qal, .inl (cA, 14, .inl al)), (qbe, .inl (cA, 14, .inl be))] H0) : RO l yX2_refusesAbove wsX2_refusesAbove 2 43 [.ref qs, .int (nI i), .int (nI j)] D cA H0 (some (.int (bI (bt (al i) j || bt (be j) i)))) := by
  refine RO_of (cc := cX2_refusesAbove) (maxL := 3) (ret := (some .boolean)) (by decide) rfl (Nat.le_of_ble_eq_true rfl) ?_
  intro p e s m below meth c ls hx hb hml hr hown hts hlk hH hK hl
  have hown : s.vm.findClass RX2 = some m.cls := hown
  have hl : lv_has ls 3 [(0, .ref qs), (1, .int (nI i)), (2, .int (nI j))] := hl
  have hinX2 : ∀ w ∈ wsX20, w ∈ wsX2_refusesAbove := by decide +kernel
  refine lv_aload_n hx hb dX2_refusesAbove_0 rfl (lv_at hl 0 rfl) ?_
  refine va_get (D := D) (ci := 2) (v := .ref qal) (C := RX2) (T := TX2) (N := 6) hx hb hts hinX2 hown hK.1 hP 0 rfl rfl 1 (by decide) (hts (.fieldLink RX2 9 "CairnShells$Strata" "alikes" "[I") (by decide +kernel)) (fun _ h9 => h9) rfl dX2_refusesAbove_1 ?_
  refine lv_iload_n hx hb dX2_refusesAbove_4 rfl (lv_at hl 1 rfl) ?_
  refine my_iald (D := D) (j := i) hx hb hK hP 1 rfl (by omega) (by decide) dX2_refusesAbove_5 ?_
  refine lv_iload_n hx hb dX2_refusesAbove_6 rfl (lv_at hl 2 rfl) ?_
  refine RO_go (va_runSN (As := [.int (al i), .int (nI j)]) (rest := []) ⟨hx, hb, hml, hown, hts⟩ (c_X3_has l (D := D) (cA := cA) (H0 := H0) (x := al i) (j := j) (hj := by omega)) ⟨va_cnB 2 hts gX2_refusesAbove_X3_has_n31 rfl rfl rfl hK.2.2.2.1 (hts (.initialized RX3) (by decide +kernel)) (by decide +kernel) ⟨Nat.le_of_ble_eq_true rfl, Nat.le_of_ble_eq_true rfl⟩, (hts (.static yX3_has) (by decide +kernel)), trivial⟩ (cP_S hK) rfl rfl hl.1 rfl (lv_room (Nat.le_of_ble_eq_true rfl)) dX2_refusesAbove_7 ⟨by omega, by omega⟩) ?_
  refine my_ifne_b (tgt := 22) hx hb dX2_refusesAbove_10 (by decide) (fun h1 => ?_) (fun h1 => ?_)
  · refine lv_iconst (v := 1) hx hb dX2_refusesAbove_22 (by decide) ?_
    refine lv_goto (tgt := 27) hx hb dX2_refusesAbove_23 (by decide) ?_
    exact RO_zret hx hb hr hlk hH dX2_refusesAbove_27 (by decide) (by first | exact bI_of h1 | exact bI_no h1 | simp [bI, h1])
  · refine lv_aload_n hx hb dX2_refusesAbove_13 rfl (lv_at hl 0 rfl) ?_
    refine lv_iload_n hx hb dX2_refusesAbove_14 rfl (lv_at hl 2 rfl) ?_
    refine lv_iload_n hx hb dX2_refusesAbove_15 rfl (lv_at hl 1 rfl) ?_
    refine RO_go (va_runV (As := [.int (nI j), .int (nI i)]) (rest := []) ⟨hx, hb, hml, hown, hts⟩ (c_X2_isLater l (D := D) (cA := cA) (H0 := H0) (i := j) (j := i) (hi := by omega) (hj := by omega) (hP := hP.sub (ws' := [(qs, .inr (2, [.int (nI N), .ref qal, .ref qbe, .ref qto, .ref qod, .ref qph])), (qbe, .inl (cA, 14, .inl be))]) [0, 2] rfl)) (cwV 2 hts gX2_refusesAbove_X2_isLater rfl rfl rfl (by decide +kernel) ⟨Nat.le_of_ble_eq_true rfl, Nat.le_of_ble_eq_true rfl⟩) (cP_V hK (va_recv hK.1 hP (ci := 2) (q0 := 0) rfl rfl)) rfl rfl hl.1 rfl (lv_room (Nat.le_of_ble_eq_true rfl)) dX2_refusesAbove_16 ⟨by omega, by omega⟩) ?_
    refine my_ifeq_b (tgt := 26) hx hb dX2_refusesAbove_19 (by decide) (fun h2 => ?_) (fun h2 => ?_)
    · refine lv_iconst (v := 0) hx hb dX2_refusesAbove_26 (by decide) ?_
      exact RO_zret hx hb hr hlk hH dX2_refusesAbove_27 (by decide) (by first | exact bI_of h2 | exact bI_no h2 | simp [bI, h1, h2])
    · refine lv_iconst (v := 1) hx hb dX2_refusesAbove_22 (by decide) ?_
      refine lv_goto (tgt := 27) hx hb dX2_refusesAbove_23 (by decide) ?_
      exact RO_zret hx hb hr hlk hH dX2_refusesAbove_27 (by decide) (by first | exact bI_of h2 | exact bI_no h2 | simp [bI, h1, h2])
set_option maxHeartbeats 4000000 in
set_option maxRecDepth 100000 in
theorem c_X2_lowestFree (l : Launch) {D : va_G} {cA : ClassId} {H0 : Heap} {qs qal qbe qto qod qph N : Nat} {be : Nat → Int32} (x : Int32) (hN1 : 1 ≤ N) (hN : N ≤ 14) (hP : va_P D vwCl [(qs, .inr (2, [.int (nI N), .ref qal, .ref qbe, .ref qto, .ref qod, .ref qph])), (qbe, .inl (cA, 14, .inl be))] H0) : RO l yX2_lowestFree wsX2_lowestFree 1 21 [.ref qs, .int x] D cA H0 (some (.int (nI (fnd (fre be x) (N - 1))))) := by
  refine RO_of (cc := cX2_lowestFree) (maxL := 3) (ret := (some .int)) (by decide) rfl (Nat.le_of_ble_eq_true rfl) ?_
  intro p e s m below meth c ls hx hb hml hr hown hts hlk hH hK hl
  have hown : s.vm.findClass RX2 = some m.cls := hown
  have hl : lv_has ls 3 [(0, .ref qs), (1, .int x)] := hl
  have hinX2 : ∀ w ∈ wsX20, w ∈ wsX2_lowestFree := by decide +kernel
  refine lv_iconst (v := 0) hx hb dX2_lowestFree_0 (by decide) ?_
  refine lv_istore_n (lv' := [(2, .int 0), (0, .ref qs), (1, .int x)]) hx hb dX2_lowestFree_1 rfl hl (by decide) rfl (fun ls hl => ?_)
  suffices loop : ∀ (n k : Nat), k ≤ (N - 1) → (N - 1) < k + n → (∀ j, j < k → fre be x j = false) → ∀ ls, lv_has ls 3 [(2, .int (nI k)), (0, .ref qs), (1, .int x)] → W p l e { frames := 1, cells := 0, slots := 0, locals := 21 } s m ([.ref qs, .int x] : List Value).toArray below meth c H0 [] 0 0 (MQ below (roQ (some (.int (nI (fnd (fre be x) (N - 1))))) H0) ([.ref qs, .int x] : List Value).toArray s 0 0 (fun _ => False)) (F0 m 2 ls []) from loop ((N - 1) + 1) 0  (by omega) (by omega) (fun j hj => absurd hj (Nat.not_lt_zero j)) _ (lv_sub hl [0, 1, 2] rfl)
  intro n
  induction n with
  | zero => intro k  hk1 hk2; exact absurd hk2 (by omega)
  | succ n ih2 =>
    intro k  hk2 hn2 hinv ls hl
    refine lv_iload_n hx hb dX2_lowestFree_2 rfl (lv_at hl 0 rfl) ?_
    refine lv_aload_n hx hb dX2_lowestFree_3 rfl (lv_at hl 1 rfl) ?_
    refine va_get (D := D) (ci := 2) (v := .int (nI N)) (C := RX2) (T := TX2) (N := 6) hx hb hts hinX2 hown hK.1 hP 0 rfl rfl 0 (by decide) (hts (.fieldLink RX2 27 "CairnShells$Strata" "layers" "I") (by decide +kernel)) (fun _ h9 => h9) rfl dX2_lowestFree_4 ?_
    refine lv_iconst (v := 1) hx hb dX2_lowestFree_7 (by decide) ?_
    refine my_isubN (x := N) (y := 1) hx hb dX2_lowestFree_8 (by omega) ?_
    refine my_geN (x := k) (y := N - 1) (tgt := 37) hx hb dX2_lowestFree_9 (by decide) (by omega) (by omega) (fun h1 => ?_) (fun h1 => ?_)
    · refine lv_iload_n hx hb dX2_lowestFree_37 rfl (lv_at hl 0 rfl) ?_
      exact RO_zret hx hb hr hlk hH dX2_lowestFree_38 (by rfl) (by rw [fnd_at (by omega) hinv (fun q => by first | (exfalso; omega) | simp [fre, h1])])
    · refine lv_iload_n hx hb dX2_lowestFree_12 rfl (lv_at hl 2 rfl) ?_
      refine lv_iload_n hx hb dX2_lowestFree_13 rfl (lv_at hl 0 rfl) ?_
      refine RO_go (va_runSN (As := [.int x, .int (nI k)]) (rest := []) ⟨hx, hb, hml, hown, hts⟩ (c_X3_has l (D := D) (cA := cA) (H0 := H0) (x := x) (j := k) (hj := by omega)) ⟨va_cnB 2 hts gX2_lowestFree_X3_has_n31 rfl rfl rfl hK.2.2.2.1 (hts (.initialized RX3) (by decide +kernel)) (by decide +kernel) ⟨Nat.le_of_ble_eq_true rfl, Nat.le_of_ble_eq_true rfl⟩, (hts (.static yX3_has) (by decide +kernel)), trivial⟩ (cP_S hK) rfl rfl hl.1 rfl (lv_room (Nat.le_of_ble_eq_true rfl)) dX2_lowestFree_14 ⟨by omega, by omega⟩) ?_
      refine my_ifeq_b (tgt := 31) hx hb dX2_lowestFree_17 (by decide) (fun h2 => ?_) (fun h2 => ?_)
      · refine lv_iinc (v := nI (k + 1)) (x := nI k) (lv' := [(2, .int (nI (k + 1))), (0, .ref qs), (1, .int x)]) hx hb dX2_lowestFree_31 hl (k := 0) rfl (nI_1 k) (by decide) rfl (fun ls hl => ?_)
        refine lv_goto (tgt := 2) hx hb dX2_lowestFree_34 (by decide) ?_
        exact ih2 (k + 1)  (by omega) (by omega) (fun j hj => (Nat.lt_succ_iff_lt_or_eq.mp hj).elim (fun q => hinv j q) (fun q => by rw [q]; simp [fre, h1, h2])) _ (lv_sub hl [0, 1, 2] rfl)
      · refine lv_aload_n hx hb dX2_lowestFree_20 rfl (lv_at hl 1 rfl) ?_
        refine va_get (D := D) (ci := 2) (v := .ref qbe) (C := RX2) (T := TX2) (N := 6) hx hb hts hinX2 hown hK.1 hP 0 rfl rfl 2 (by decide) (hts (.fieldLink RX2 15 "CairnShells$Strata" "belows" "[I") (by decide +kernel)) (fun _ h9 => h9) rfl dX2_lowestFree_21 ?_
        refine lv_iload_n hx hb dX2_lowestFree_24 rfl (lv_at hl 0 rfl) ?_
        refine my_iald (D := D) (j := k) hx hb hK hP 1 rfl (by omega) (by decide) dX2_lowestFree_25 ?_
        refine lv_iload_n hx hb dX2_lowestFree_26 rfl (lv_at hl 2 rfl) ?_
        refine lv_iand hx hb dX2_lowestFree_27 ?_
        refine lv_if_eq (tgt := 37) hx hb dX2_lowestFree_28 (by decide) (fun h3 => ?_) (fun h3 => ?_)
        · refine lv_iload_n hx hb dX2_lowestFree_37 rfl (lv_at hl 0 rfl) ?_
          exact RO_zret hx hb hr hlk hH dX2_lowestFree_38 (by rfl) (by rw [fnd_at (by omega) hinv (fun q => by first | (exfalso; omega) | simp [fre, h1, h2, h3])])
        · refine lv_iinc (v := nI (k + 1)) (x := nI k) (lv' := [(2, .int (nI (k + 1))), (0, .ref qs), (1, .int x)]) hx hb dX2_lowestFree_31 hl (k := 0) rfl (nI_1 k) (by decide) rfl (fun ls hl => ?_)
          refine lv_goto (tgt := 2) hx hb dX2_lowestFree_34 (by decide) ?_
          exact ih2 (k + 1)  (by omega) (by omega) (fun j hj => (Nat.lt_succ_iff_lt_or_eq.mp hj).elim (fun q => hinv j q) (fun q => by rw [q]; simp [fre, h1, h2, h3])) _ (lv_sub hl [0, 1, 2] rfl)
set_option maxHeartbeats 4000000 in
set_option maxRecDepth 100000 in
theorem c_X2_phaseOver (l : Launch) {D : va_G} {cA : ClassId} {H0 : Heap} {qs qal qbe qto qod qph N : Nat} {ph : Nat → Int32} (x : Int32) (hN : N ≤ 14) (hP : va_P D vwCl [(qs, .inr (2, [.int (nI N), .ref qal, .ref qbe, .ref qto, .ref qod, .ref qph])), (qph, .inl (cA, 14, .inl ph))] H0) : RO l yX2_phaseOver wsX2_phaseOver 1 21 [.ref qs, .int x] D cA H0 (some (.int (pO ph x N))) := by
  refine RO_of (cc := cX2_phaseOver) (maxL := 4) (ret := (some .int)) (by decide) rfl (Nat.le_of_ble_eq_true rfl) ?_
  intro p e s m below meth c ls hx hb hml hr hown hts hlk hH hK hl
  have hown : s.vm.findClass RX2 = some m.cls := hown
  have hl : lv_has ls 4 [(0, .ref qs), (1, .int x)] := hl
  have hinX2 : ∀ w ∈ wsX20, w ∈ wsX2_phaseOver := by decide +kernel
  refine lv_iconst (v := 0) hx hb dX2_phaseOver_0 (by decide) ?_
  refine lv_istore_n (lv' := [(2, .int 0), (0, .ref qs), (1, .int x)]) hx hb dX2_phaseOver_1 rfl hl (by decide) rfl (fun ls hl => ?_)
  refine lv_iconst (v := 0) hx hb dX2_phaseOver_2 (by decide) ?_
  refine lv_istore_n (lv' := [(3, .int 0), (2, .int 0), (0, .ref qs), (1, .int x)]) hx hb dX2_phaseOver_3 rfl hl (by decide) rfl (fun ls hl => ?_)
  suffices loop : ∀ (n k : Nat) (y : Int32), k ≤ N → N < k + n → y = pO ph x k → ∀ ls, lv_has ls 4 [(3, .int (nI k)), (2, .int y), (0, .ref qs), (1, .int x)] → W p l e { frames := 1, cells := 0, slots := 0, locals := 21 } s m ([.ref qs, .int x] : List Value).toArray below meth c H0 [] 0 0 (MQ below (roQ (some (.int (pO ph x N))) H0) ([.ref qs, .int x] : List Value).toArray s 0 0 (fun _ => False)) (F0 m 4 ls []) from loop (N + 1) 0 0 (by omega) (by omega) (by first | rfl | (simp []; done) | (simp []; done)) _ (lv_sub hl [0, 1, 2, 3] rfl)
  intro n
  induction n with
  | zero => intro k y hk1 hk2; exact absurd hk2 (by omega)
  | succ n ih4 =>
    intro k y hk4 hn4 ey ls hl
    refine lv_iload_n hx hb dX2_phaseOver_4 rfl (lv_at hl 0 rfl) ?_
    refine lv_aload_n hx hb dX2_phaseOver_5 rfl (lv_at hl 2 rfl) ?_
    refine va_get (D := D) (ci := 2) (v := .int (nI N)) (C := RX2) (T := TX2) (N := 6) hx hb hts hinX2 hown hK.1 hP 0 rfl rfl 0 (by decide) (hts (.fieldLink RX2 27 "CairnShells$Strata" "layers" "I") (by decide +kernel)) (fun _ h9 => h9) rfl dX2_phaseOver_6 ?_
    refine my_geN (x := k) (y := N) (tgt := 39) hx hb dX2_phaseOver_9 (by decide) (by omega) (by omega) (fun h1 => ?_) (fun h1 => ?_)
    · obtain rfl : N = k := by omega
      subst ey
      refine lv_iload_n hx hb dX2_phaseOver_39 rfl (lv_at hl 1 rfl) ?_
      exact RO_zret hx hb hr hlk hH dX2_phaseOver_40 (by rfl) (by first | rfl | simp [h1])
    · refine lv_iload_n hx hb dX2_phaseOver_12 rfl (lv_at hl 3 rfl) ?_
      refine lv_iload_n hx hb dX2_phaseOver_13 rfl (lv_at hl 0 rfl) ?_
      refine RO_go (va_runSN (As := [.int x, .int (nI k)]) (rest := []) ⟨hx, hb, hml, hown, hts⟩ (c_X3_has l (D := D) (cA := cA) (H0 := H0) (x := x) (j := k) (hj := by omega)) ⟨va_cnB 2 hts gX2_phaseOver_X3_has_n31 rfl rfl rfl hK.2.2.2.1 (hts (.initialized RX3) (by decide +kernel)) (by decide +kernel) ⟨Nat.le_of_ble_eq_true rfl, Nat.le_of_ble_eq_true rfl⟩, (hts (.static yX3_has) (by decide +kernel)), trivial⟩ (cP_S hK) rfl rfl hl.1 rfl (lv_room (Nat.le_of_ble_eq_true rfl)) dX2_phaseOver_14 ⟨by omega, by omega⟩) ?_
      refine my_ifeq_b (tgt := 33) hx hb dX2_phaseOver_17 (by decide) (fun h2 => ?_) (fun h2 => ?_)
      · refine lv_iinc (v := nI (k + 1)) (x := nI k) (lv' := [(3, .int (nI (k + 1))), (2, .int y), (0, .ref qs), (1, .int x)]) hx hb dX2_phaseOver_33 hl (k := 0) rfl (nI_1 k) (by decide) rfl (fun ls hl => ?_)
        refine lv_goto (tgt := 4) hx hb dX2_phaseOver_36 (by decide) ?_
        exact ih4 (k + 1) y (by omega) (by omega) (by subst ey; first | rfl | simp [pO, h1, h2]) _ (lv_sub hl [0, 1, 2, 3] rfl)
      · refine lv_iload_n hx hb dX2_phaseOver_20 rfl (lv_at hl 1 rfl) ?_
        refine lv_aload_n hx hb dX2_phaseOver_21 rfl (lv_at hl 2 rfl) ?_
        refine va_get (D := D) (ci := 2) (v := .ref qph) (C := RX2) (T := TX2) (N := 6) hx hb hts hinX2 hown hK.1 hP 0 rfl rfl 5 (by decide) (hts (.fieldLink RX2 24 "CairnShells$Strata" "phaseOf" "[I") (by decide +kernel)) (fun _ h9 => h9) rfl dX2_phaseOver_22 ?_
        refine lv_iload_n hx hb dX2_phaseOver_25 rfl (lv_at hl 0 rfl) ?_
        refine my_iald (D := D) (j := k) hx hb hK hP 1 rfl (by omega) (by decide) dX2_phaseOver_26 ?_
        refine lv_iconst (v := 1) hx hb dX2_phaseOver_27 (by decide) ?_
        refine lv_iadd hx hb dX2_phaseOver_28 ?_
        refine va_mmax hx hb (hml.trans hl.1.symm) hown (hts (.methodLink RX2 52 Lib.Math.max.name) (by decide +kernel)) (hts (.static Lib.Math.max.name) (by decide +kernel)) (hts (.initialized "java/lang/Math") (by decide +kernel)) (hts (.code Lib.Math.max.name Lib.Math.max.code 2 (some .int)) (by decide +kernel)) (Nat.le_of_ble_eq_true rfl) (Nat.le_of_ble_eq_true rfl) (by omega) (by omega) dX2_phaseOver_29 ?_
        refine lv_istore_n (lv' := [(2, .int (imax y ((ph k) + 1))), (3, .int (nI k)), (0, .ref qs), (1, .int x)]) hx hb dX2_phaseOver_32 rfl hl (by decide) rfl (fun ls hl => ?_)
        refine lv_iinc (v := nI (k + 1)) (x := nI k) (lv' := [(3, .int (nI (k + 1))), (2, .int (imax y ((ph k) + 1))), (0, .ref qs), (1, .int x)]) hx hb dX2_phaseOver_33 hl (k := 1) rfl (nI_1 k) (by decide) rfl (fun ls hl => ?_)
        refine lv_goto (tgt := 4) hx hb dX2_phaseOver_36 (by decide) ?_
        exact ih4 (k + 1) (imax y ((ph k) + 1)) (by omega) (by omega) (by subst ey; first | rfl | simp [pO, h1, h2]) _ (lv_sub hl [0, 1, 2, 3] rfl)
set_option maxHeartbeats 4000000 in
set_option maxRecDepth 100000 in
theorem c_X2_phases (l : Launch) {D : va_G} {cA : ClassId} {H0 : Heap} {qs qal qbe qto qod qph N : Nat} {ph : Nat → Int32} (hN : N ≤ 14) (hP : va_P D vwCl [(qs, .inr (2, [.int (nI N), .ref qal, .ref qbe, .ref qto, .ref qod, .ref qph])), (qph, .inl (cA, 14, .inl ph))] H0) : RO l yX2_phases wsX2_phases 1 21 [.ref qs] D cA H0 (some (.int (phs ph N))) := by
  refine RO_of (cc := cX2_phases) (maxL := 3) (ret := (some .int)) (by decide) rfl (Nat.le_of_ble_eq_true rfl) ?_
  intro p e s m below meth c ls hx hb hml hr hown hts hlk hH hK hl
  have hown : s.vm.findClass RX2 = some m.cls := hown
  have hl : lv_has ls 3 [(0, .ref qs)] := hl
  have hinX2 : ∀ w ∈ wsX20, w ∈ wsX2_phases := by decide +kernel
  refine lv_iconst (v := 0) hx hb dX2_phases_0 (by decide) ?_
  refine lv_istore_n (lv' := [(1, .int 0), (0, .ref qs)]) hx hb dX2_phases_1 rfl hl (by decide) rfl (fun ls hl => ?_)
  refine lv_iconst (v := 0) hx hb dX2_phases_2 (by decide) ?_
  refine lv_istore_n (lv' := [(2, .int 0), (1, .int 0), (0, .ref qs)]) hx hb dX2_phases_3 rfl hl (by decide) rfl (fun ls hl => ?_)
  suffices loop : ∀ (n k : Nat) (y : Int32), k ≤ N → N < k + n → y = phs ph k → ∀ ls, lv_has ls 3 [(2, .int (nI k)), (1, .int y), (0, .ref qs)] → W p l e { frames := 1, cells := 0, slots := 0, locals := 21 } s m ([.ref qs] : List Value).toArray below meth c H0 [] 0 0 (MQ below (roQ (some (.int (phs ph N))) H0) ([.ref qs] : List Value).toArray s 0 0 (fun _ => False)) (F0 m 4 ls []) from loop (N + 1) 0 0 (by omega) (by omega) (by first | rfl | (simp []; done) | (simp []; done)) _ (lv_sub hl [0, 1, 2] rfl)
  intro n
  induction n with
  | zero => intro k y hk1 hk2; exact absurd hk2 (by omega)
  | succ n ih4 =>
    intro k y hk4 hn4 ey ls hl
    refine lv_iload_n hx hb dX2_phases_4 rfl (lv_at hl 0 rfl) ?_
    refine lv_aload_n hx hb dX2_phases_5 rfl (lv_at hl 2 rfl) ?_
    refine va_get (D := D) (ci := 2) (v := .int (nI N)) (C := RX2) (T := TX2) (N := 6) hx hb hts hinX2 hown hK.1 hP 0 rfl rfl 0 (by decide) (hts (.fieldLink RX2 27 "CairnShells$Strata" "layers" "I") (by decide +kernel)) (fun _ h9 => h9) rfl dX2_phases_6 ?_
    refine my_geN (x := k) (y := N) (tgt := 31) hx hb dX2_phases_9 (by decide) (by omega) (by omega) (fun h1 => ?_) (fun h1 => ?_)
    · obtain rfl : N = k := by omega
      subst ey
      refine lv_iload_n hx hb dX2_phases_31 rfl (lv_at hl 1 rfl) ?_
      exact RO_zret hx hb hr hlk hH dX2_phases_32 (by rfl) (by first | rfl | simp [h1])
    · refine lv_iload_n hx hb dX2_phases_12 rfl (lv_at hl 1 rfl) ?_
      refine lv_aload_n hx hb dX2_phases_13 rfl (lv_at hl 2 rfl) ?_
      refine va_get (D := D) (ci := 2) (v := .ref qph) (C := RX2) (T := TX2) (N := 6) hx hb hts hinX2 hown hK.1 hP 0 rfl rfl 5 (by decide) (hts (.fieldLink RX2 24 "CairnShells$Strata" "phaseOf" "[I") (by decide +kernel)) (fun _ h9 => h9) rfl dX2_phases_14 ?_
      refine lv_iload_n hx hb dX2_phases_17 rfl (lv_at hl 0 rfl) ?_
      refine my_iald (D := D) (j := k) hx hb hK hP 1 rfl (by omega) (by decide) dX2_phases_18 ?_
      refine lv_iconst (v := 1) hx hb dX2_phases_19 (by decide) ?_
      refine lv_iadd hx hb dX2_phases_20 ?_
      refine va_mmax hx hb (hml.trans hl.1.symm) hown (hts (.methodLink RX2 52 Lib.Math.max.name) (by decide +kernel)) (hts (.static Lib.Math.max.name) (by decide +kernel)) (hts (.initialized "java/lang/Math") (by decide +kernel)) (hts (.code Lib.Math.max.name Lib.Math.max.code 2 (some .int)) (by decide +kernel)) (Nat.le_of_ble_eq_true rfl) (Nat.le_of_ble_eq_true rfl) (by omega) (by omega) dX2_phases_21 ?_
      refine lv_istore_n (lv' := [(1, .int (imax y ((ph k) + 1))), (2, .int (nI k)), (0, .ref qs)]) hx hb dX2_phases_24 rfl hl (by decide) rfl (fun ls hl => ?_)
      refine lv_iinc (v := nI (k + 1)) (x := nI k) (lv' := [(2, .int (nI (k + 1))), (1, .int (imax y ((ph k) + 1))), (0, .ref qs)]) hx hb dX2_phases_25 hl (k := 1) rfl (nI_1 k) (by decide) rfl (fun ls hl => ?_)
      refine lv_goto (tgt := 4) hx hb dX2_phases_28 (by decide) ?_
      exact ih4 (k + 1) (imax y ((ph k) + 1)) (by omega) (by omega) (by subst ey; first | rfl | simp [phs, h1]) _ (lv_sub hl [0, 1, 2] rfl)
set_option maxHeartbeats 4000000 in
set_option maxRecDepth 100000 in
theorem c_X2_pairs (l : Launch) {D : va_G} {cA : ClassId} {H0 : Heap} {qs qal qbe qto qod qph N : Nat} {be : Nat → Int32} (hN : N ≤ 14) (hsm : ∀ j, j < N → small (be j)) (hP : va_P D vwCl [(qs, .inr (2, [.int (nI N), .ref qal, .ref qbe, .ref qto, .ref qod, .ref qph])), (qbe, .inl (cA, 14, .inl be))] H0) : RO l yX2_pairs wsX2_pairs 1 20 [.ref qs] D cA H0 (some (.int (nI (prs be N)))) := by
  refine RO_of (cc := cX2_pairs) (maxL := 3) (ret := (some .int)) (by decide) rfl (Nat.le_of_ble_eq_true rfl) ?_
  intro p e s m below meth c ls hx hb hml hr hown hts hlk hH hK hl
  have hown : s.vm.findClass RX2 = some m.cls := hown
  have hl : lv_has ls 3 [(0, .ref qs)] := hl
  have hinX2 : ∀ w ∈ wsX20, w ∈ wsX2_pairs := by decide +kernel
  refine lv_iconst (v := 0) hx hb dX2_pairs_0 (by decide) ?_
  refine lv_istore_n (lv' := [(1, .int 0), (0, .ref qs)]) hx hb dX2_pairs_1 rfl hl (by decide) rfl (fun ls hl => ?_)
  refine lv_iconst (v := 0) hx hb dX2_pairs_2 (by decide) ?_
  refine lv_istore_n (lv' := [(2, .int 0), (1, .int 0), (0, .ref qs)]) hx hb dX2_pairs_3 rfl hl (by decide) rfl (fun ls hl => ?_)
  suffices loop : ∀ (n k : Nat) (y : Nat), k ≤ N → N < k + n → y = prs be k → ∀ ls, lv_has ls 3 [(2, .int (nI k)), (1, .int (nI y)), (0, .ref qs)] → W p l e { frames := 1, cells := 0, slots := 0, locals := 20 } s m ([.ref qs] : List Value).toArray below meth c H0 [] 0 0 (MQ below (roQ (some (.int (nI (prs be N)))) H0) ([.ref qs] : List Value).toArray s 0 0 (fun _ => False)) (F0 m 4 ls []) from loop (N + 1) 0 0 (by omega) (by omega) (by first | rfl | (simp []; done) | (simp []; done)) _ (lv_sub hl [0, 1, 2] rfl)
  intro n
  induction n with
  | zero => intro k y hk1 hk2; exact absurd hk2 (by omega)
  | succ n ih4 =>
    intro k y hk4 hn4 ey ls hl
    refine lv_iload_n hx hb dX2_pairs_4 rfl (lv_at hl 0 rfl) ?_
    refine lv_aload_n hx hb dX2_pairs_5 rfl (lv_at hl 2 rfl) ?_
    refine va_get (D := D) (ci := 2) (v := .int (nI N)) (C := RX2) (T := TX2) (N := 6) hx hb hts hinX2 hown hK.1 hP 0 rfl rfl 0 (by decide) (hts (.fieldLink RX2 27 "CairnShells$Strata" "layers" "I") (by decide +kernel)) (fun _ h9 => h9) rfl dX2_pairs_6 ?_
    refine my_geN (x := k) (y := N) (tgt := 30) hx hb dX2_pairs_9 (by decide) (by omega) (by omega) (fun h1 => ?_) (fun h1 => ?_)
    · obtain rfl : N = k := by omega
      subst ey
      refine lv_iload_n hx hb dX2_pairs_30 rfl (lv_at hl 1 rfl) ?_
      exact RO_zret hx hb hr hlk hH dX2_pairs_31 (by rfl) rfl
    · refine lv_iload_n hx hb dX2_pairs_12 rfl (lv_at hl 1 rfl) ?_
      refine lv_aload_n hx hb dX2_pairs_13 rfl (lv_at hl 2 rfl) ?_
      refine va_get (D := D) (ci := 2) (v := .ref qbe) (C := RX2) (T := TX2) (N := 6) hx hb hts hinX2 hown hK.1 hP 0 rfl rfl 2 (by decide) (hts (.fieldLink RX2 15 "CairnShells$Strata" "belows" "[I") (by decide +kernel)) (fun _ h9 => h9) rfl dX2_pairs_14 ?_
      refine lv_iload_n hx hb dX2_pairs_17 rfl (lv_at hl 0 rfl) ?_
      refine my_iald (D := D) (j := k) hx hb hK hP 1 rfl (by omega) (by decide) dX2_pairs_18 ?_
      refine RO_go (va_runS (As := [.int (be k)]) (rest := [.int (nI y)]) ⟨hx, hb, hml, hown, hts⟩ (c_bc l (D := D) (cA := cA) (H0 := H0) (x := be k) (hs := hsm k (by omega))) (va_cwS 1 hts gX2_pairs_J6_bitCount_0f7a4 rfl rfl rfl (by decide +kernel) ⟨Nat.le_of_ble_eq_true rfl, Nat.le_of_ble_eq_true rfl⟩) (cP_S hK) rfl rfl hl.1 rfl (lv_room (Nat.le_of_ble_eq_true rfl)) dX2_pairs_19 ⟨by omega, by omega⟩) ?_
      refine my_iaddN (x := y) (y := ct (bt (be k)) 14) hx hb dX2_pairs_22 ?_
      refine lv_istore_n (lv' := [(1, .int (nI (y + (ct (bt (be k)) 14)))), (2, .int (nI k)), (0, .ref qs)]) hx hb dX2_pairs_23 rfl hl (by decide) rfl (fun ls hl => ?_)
      refine lv_iinc (v := nI (k + 1)) (x := nI k) (lv' := [(2, .int (nI (k + 1))), (1, .int (nI (y + (ct (bt (be k)) 14)))), (0, .ref qs)]) hx hb dX2_pairs_24 hl (k := 1) rfl (nI_1 k) (by decide) rfl (fun ls hl => ?_)
      refine lv_goto (tgt := 4) hx hb dX2_pairs_27 (by decide) ?_
      exact ih4 (k + 1) (y + (ct (bt (be k)) 14)) (by omega) (by omega) (by subst ey; first | rfl | simp [prs, h1]) _ (lv_sub hl [0, 1, 2] rfl)
set_option maxHeartbeats 4000000 in
set_option maxRecDepth 100000 in
theorem c_X2_sorts (l : Launch) {D : va_G} {cA : ClassId} {H0 : Heap} {qs qal qbe qto qod qph N : Nat} {al : Nat → Int32} (hN : N ≤ 14) (hP : va_P D vwCl [(qs, .inr (2, [.int (nI N), .ref qal, .ref qbe, .ref qto, .ref qod, .ref qph])), (qal, .inl (cA, 14, .inl al))] H0) : RO l yX2_sorts wsX2_sorts 0 0 [.ref qs] D cA H0 (some (.int (nI (srt al N)))) := by
  refine RO_of (cc := cX2_sorts) (maxL := 3) (ret := (some .int)) (by decide) rfl (Nat.le_of_ble_eq_true rfl) ?_
  intro p e s m below meth c ls hx hb hml hr hown hts hlk hH hK hl
  have hown : s.vm.findClass RX2 = some m.cls := hown
  have hl : lv_has ls 3 [(0, .ref qs)] := hl
  have hinX2 : ∀ w ∈ wsX20, w ∈ wsX2_sorts := by decide +kernel
  refine lv_iconst (v := 0) hx hb dX2_sorts_0 (by decide) ?_
  refine lv_istore_n (lv' := [(1, .int 0), (0, .ref qs)]) hx hb dX2_sorts_1 rfl hl (by decide) rfl (fun ls hl => ?_)
  refine lv_iconst (v := 0) hx hb dX2_sorts_2 (by decide) ?_
  refine lv_istore_n (lv' := [(2, .int 0), (1, .int 0), (0, .ref qs)]) hx hb dX2_sorts_3 rfl hl (by decide) rfl (fun ls hl => ?_)
  suffices loop : ∀ (n k : Nat) (y : Nat), k ≤ N → N < k + n → y = srt al k → ∀ ls, lv_has ls 3 [(2, .int (nI k)), (1, .int (nI y)), (0, .ref qs)] → W p l e { frames := 0, cells := 0, slots := 0, locals := 0 } s m ([.ref qs] : List Value).toArray below meth c H0 [] 0 0 (MQ below (roQ (some (.int (nI (srt al N)))) H0) ([.ref qs] : List Value).toArray s 0 0 (fun _ => False)) (F0 m 4 ls []) from loop (N + 1) 0 0 (by omega) (by omega) (by first | rfl | (simp []; done) | (simp []; done)) _ (lv_sub hl [0, 1, 2] rfl)
  intro n
  induction n with
  | zero => intro k y hk1 hk2; exact absurd hk2 (by omega)
  | succ n ih4 =>
    intro k y hk4 hn4 ey ls hl
    refine lv_iload_n hx hb dX2_sorts_4 rfl (lv_at hl 0 rfl) ?_
    refine lv_aload_n hx hb dX2_sorts_5 rfl (lv_at hl 2 rfl) ?_
    refine va_get (D := D) (ci := 2) (v := .int (nI N)) (C := RX2) (T := TX2) (N := 6) hx hb hts hinX2 hown hK.1 hP 0 rfl rfl 0 (by decide) (hts (.fieldLink RX2 27 "CairnShells$Strata" "layers" "I") (by decide +kernel)) (fun _ h9 => h9) rfl dX2_sorts_6 ?_
    refine my_geN (x := k) (y := N) (tgt := 36) hx hb dX2_sorts_9 (by decide) (by omega) (by omega) (fun h1 => ?_) (fun h1 => ?_)
    · obtain rfl : N = k := by omega
      subst ey
      refine lv_iload_n hx hb dX2_sorts_36 rfl (lv_at hl 1 rfl) ?_
      exact RO_zret hx hb hr hlk hH dX2_sorts_37 (by rfl) rfl
    · refine lv_aload_n hx hb dX2_sorts_12 rfl (lv_at hl 2 rfl) ?_
      refine va_get (D := D) (ci := 2) (v := .ref qal) (C := RX2) (T := TX2) (N := 6) hx hb hts hinX2 hown hK.1 hP 0 rfl rfl 1 (by decide) (hts (.fieldLink RX2 9 "CairnShells$Strata" "alikes" "[I") (by decide +kernel)) (fun _ h9 => h9) rfl dX2_sorts_13 ?_
      refine lv_iload_n hx hb dX2_sorts_16 rfl (lv_at hl 0 rfl) ?_
      refine my_iald (D := D) (j := k) hx hb hK hP 1 rfl (by omega) (by decide) dX2_sorts_17 ?_
      refine lv_iconst (v := 1) hx hb dX2_sorts_18 (by decide) ?_
      refine lv_iload_n hx hb dX2_sorts_19 rfl (lv_at hl 0 rfl) ?_
      refine lv_ishl hx hb dX2_sorts_20 ?_
      refine lv_iconst (v := 1) hx hb dX2_sorts_21 (by decide) ?_
      refine lv_isub hx hb dX2_sorts_22 ?_
      refine lv_iand hx hb dX2_sorts_23 ?_
      refine lv_if_ne (tgt := 30) hx hb dX2_sorts_24 (by decide) (fun h2 => ?_) (fun h2 => ?_)
      · refine lv_iinc (v := nI (k + 1)) (x := nI k) (lv' := [(2, .int (nI (k + 1))), (1, .int (nI y)), (0, .ref qs)]) hx hb dX2_sorts_30 hl (k := 0) rfl (nI_1 k) (by decide) rfl (fun ls hl => ?_)
        refine lv_goto (tgt := 4) hx hb dX2_sorts_33 (by decide) ?_
        exact ih4 (k + 1) y (by omega) (by omega) (by subst ey; first | rfl | simp [srt, h1, h2]) _ (lv_sub hl [0, 1, 2] rfl)
      · refine lv_iinc (v := nI (y + 1)) (x := nI y) (lv' := [(1, .int (nI (y + 1))), (2, .int (nI k)), (0, .ref qs)]) hx hb dX2_sorts_27 hl (k := 1) rfl (nI_1 y) (by decide) rfl (fun ls hl => ?_)
        refine lv_iinc (v := nI (k + 1)) (x := nI k) (lv' := [(2, .int (nI (k + 1))), (1, .int (nI (y + 1))), (0, .ref qs)]) hx hb dX2_sorts_30 hl (k := 1) rfl (nI_1 k) (by decide) rfl (fun ls hl => ?_)
        refine lv_goto (tgt := 4) hx hb dX2_sorts_33 (by decide) ?_
        exact ih4 (k + 1) (y + 1) (by omega) (by omega) (by subst ey; first | rfl | simp [srt, h1, h2]) _ (lv_sub hl [0, 1, 2] rfl)
set_option maxHeartbeats 4000000 in
set_option maxRecDepth 100000 in
theorem c_X2_link (l : Launch) {D : va_G} {cA : ClassId} {H0 : Heap} {qs qal qbe qto qod qph N : Nat} {be to : Nat → Int32} (x : Int32) (y : Int32) (hN : N ≤ 14) (hP : va_P D vwCl [(qs, .inr (2, [.int (nI N), .ref qal, .ref qbe, .ref qto, .ref qod, .ref qph])), (qbe, .inl (cA, 14, .inl be)), (qto, .inl (cA, 14, .inl to))] H0) (hD0 : va_D (fun _ => True) [(qs, .inr (2, [.int (nI N), .ref qal, .ref qbe, .ref qto, .ref qod, .ref qph])), (qbe, .inl (cA, 14, .inl be)), (qto, .inl (cA, 14, .inl to))]) : WR l yX2_link wsX2_link 1 21 0 0 [.ref qs, .int x, .int y] D cA H0 none [(qs, .inr (2, [.int (nI N), .ref qal, .ref qbe, .ref qto, .ref qod, .ref qph])), (qbe, .inl (cA, 14, .inl be)), (qto, .inl (cA, 14, .inl to))] [(qs, .inr (2, [.int (nI N), .ref qal, .ref qbe, .ref qto, .ref qod, .ref qph])), (qbe, .inl (cA, 14, .inl (lkU be x y N))), (qto, .inl (cA, 14, .inl (lkU to y x N)))] := by
  refine WR_of (cc := cX2_link) (maxL := 4) (ret := none) (by decide) rfl (Nat.le_of_ble_eq_true rfl) ?_
  intro p e s m below meth c ls hx hb hml hr hown hts hlk hin2 hH hK hl
  have hown : s.vm.findClass RX2 = some m.cls := hown
  have hl : lv_has ls 4 [(0, .ref qs), (1, .int x), (2, .int y)] := hl
  have hinX2 : ∀ w ∈ wsX20, w ∈ wsX2_link := by decide +kernel
  have hD := hD0.self (sz := H0.size)
  obtain ⟨A, hAe⟩ : ∃ A, A = va_A [(qs, .inr (2, [.int (nI N), .ref qal, .ref qbe, .ref qto, .ref qod, .ref qph])), (qbe, .inl (cA, 14, .inl be)), (qto, .inl (cA, 14, .inl to))] H0.size := ⟨_, rfl⟩
  rw [← hAe] at hD ⊢
  have hA : ∀ q : Nat, H0.size ≤ q → A q := fun q h => by rw [hAe]; exact Or.inr h
  have hS : va_S A H0 H0 [] := va_S.rf
  refine lv_iconst (v := 0) hx hb dX2_link_0 (by decide) ?_
  refine lv_istore_n (lv' := [(3, .int 0), (0, .ref qs), (1, .int x), (2, .int y)]) hx hb dX2_link_1 rfl hl (by decide) rfl (fun ls hl => ?_)
  suffices loop : ∀ (n k : Nat) (f1 : Nat → Int32) (f2 : Nat → Int32), k ≤ N → N < k + n → f1 = lkU be x y k → f2 = lkU to y x k → ∀ (H : Heap) (locs : List Loc), va_P D vwCl [(qs, .inr (2, [.int (nI N), .ref qal, .ref qbe, .ref qto, .ref qod, .ref qph])), (qbe, .inl (cA, 14, .inl f1)), (qto, .inl (cA, 14, .inl f2))] H → va_D A [(qs, .inr (2, [.int (nI N), .ref qal, .ref qbe, .ref qto, .ref qod, .ref qph])), (qbe, .inl (cA, 14, .inl f1)), (qto, .inl (cA, 14, .inl f2))] → va_S A H0 H locs → ∀ ls, lv_has ls 4 [(3, .int (nI k)), (0, .ref qs), (1, .int x), (2, .int y)] → W p l e { frames := 1, cells := 0, slots := 0, locals := 21 } s m ([.ref qs, .int x, .int y] : List Value).toArray below meth c H locs (0) (0) (MQ below (wrQ none D [(qs, .inr (2, [.int (nI N), .ref qal, .ref qbe, .ref qto, .ref qod, .ref qph])), (qbe, .inl (cA, 14, .inl be)), (qto, .inl (cA, 14, .inl to))] [(qs, .inr (2, [.int (nI N), .ref qal, .ref qbe, .ref qto, .ref qod, .ref qph])), (qbe, .inl (cA, 14, .inl (lkU be x y N))), (qto, .inl (cA, 14, .inl (lkU to y x N)))] H0) ([.ref qs, .int x, .int y] : List Value).toArray s 0 0 A) (F0 m 2 ls []) from loop (N + 1) 0 be to (by omega) (by omega) (by first | rfl | (simp [lkU_0]; done) | (simp [lkU_0]; done)) (by first | rfl | (simp [lkU_0]; done) | (simp [lkU_0]; done)) _ _ hP hD hS _ (lv_sub hl [0, 1, 2, 3] rfl)
  intro n
  induction n with
  | zero => intro k f1 f2 hk1 hk2; exact absurd hk2 (by omega)
  | succ n ih2 =>
    intro k f1 f2 hk2 hn2 ef1 ef2 H locs hP hD hS ls hl
    refine lv_iload_n hx hb dX2_link_2 rfl (lv_at hl 0 rfl) ?_
    refine lv_aload_n hx hb dX2_link_3 rfl (lv_at hl 1 rfl) ?_
    refine va_get (D := D) (ci := 2) (v := .int (nI N)) (C := RX2) (T := TX2) (N := 6) hx hb hts hinX2 hown hK.1 hP 0 rfl rfl 0 (by decide) (hts (.fieldLink RX2 27 "CairnShells$Strata" "layers" "I") (by decide +kernel)) (fun _ h9 => h9) rfl dX2_link_4 ?_
    refine my_geN (x := k) (y := N) (tgt := 52) hx hb dX2_link_7 (by decide) (by omega) (by omega) (fun h1 => ?_) (fun h1 => ?_)
    · obtain rfl : N = k := by omega
      subst ef1
      subst ef2
      exact WR_vret hAe hx hb hr hlk hH dX2_link_52 (by omega) (by omega) (hP.sub [0, 1, 2] rfl) hS
    · refine lv_iload_n hx hb dX2_link_10 rfl (lv_at hl 2 rfl) ?_
      refine lv_iload_n hx hb dX2_link_11 rfl (lv_at hl 0 rfl) ?_
      refine RO_go (va_runSN (As := [.int x, .int (nI k)]) (rest := []) ⟨hx, hb, hml, hown, hts⟩ (c_X3_has l (D := D) (cA := cA) (H0 := H) (x := x) (j := k) (hj := by omega)) ⟨va_cnB 2 hts gX2_link_X3_has_n31 rfl rfl rfl hK.2.2.2.1 (hts (.initialized RX3) (by decide +kernel)) (by decide +kernel) ⟨Nat.le_of_ble_eq_true rfl, Nat.le_of_ble_eq_true rfl⟩, (hts (.static yX3_has) (by decide +kernel)), trivial⟩ (cP_S hK) rfl rfl hl.1 rfl (lv_room (Nat.le_of_ble_eq_true rfl)) dX2_link_12 ⟨by omega, by omega⟩) ?_
      refine my_ifeq_b (tgt := 28) hx hb dX2_link_15 (by decide) (fun h2 => ?_) (fun h2 => ?_)
      · refine lv_iload_n hx hb dX2_link_28 rfl (lv_at hl 3 rfl) ?_
        refine lv_iload_n hx hb dX2_link_29 rfl (lv_at hl 0 rfl) ?_
        refine RO_go (va_runSN (As := [.int y, .int (nI k)]) (rest := []) ⟨hx, hb, hml, hown, hts⟩ (c_X3_has l (D := D) (cA := cA) (H0 := H) (x := y) (j := k) (hj := by omega)) ⟨va_cnB 2 hts gX2_link_X3_has_n31 rfl rfl rfl hK.2.2.2.1 (hts (.initialized RX3) (by decide +kernel)) (by decide +kernel) ⟨Nat.le_of_ble_eq_true rfl, Nat.le_of_ble_eq_true rfl⟩, (hts (.static yX3_has) (by decide +kernel)), trivial⟩ (cP_S hK) rfl rfl hl.1 rfl (lv_room (Nat.le_of_ble_eq_true rfl)) dX2_link_30 ⟨by omega, by omega⟩) ?_
        refine my_ifeq_b (tgt := 46) hx hb dX2_link_33 (by decide) (fun h3 => ?_) (fun h3 => ?_)
        · refine lv_iinc (v := nI (k + 1)) (x := nI k) (lv' := [(3, .int (nI (k + 1))), (0, .ref qs), (1, .int x), (2, .int y)]) hx hb dX2_link_46 hl (k := 0) rfl (nI_1 k) (by decide) rfl (fun ls hl => ?_)
          refine lv_goto (tgt := 2) hx hb dX2_link_49 (by decide) ?_
          exact ih2 (k + 1) f1 f2 (by omega) (by omega) (by subst ef1; subst ef2; first | exact lkU_t h2 | exact lkU_f h2 | exact lkU_t h3 | exact lkU_f h3) (by subst ef1; subst ef2; first | exact lkU_t h2 | exact lkU_f h2 | exact lkU_t h3 | exact lkU_f h3) _ _ hP hD hS _ (lv_sub hl [0, 1, 2, 3] rfl)
        · refine lv_aload_n hx hb dX2_link_36 rfl (lv_at hl 1 rfl) ?_
          refine va_get (D := D) (ci := 2) (v := .ref qto) (C := RX2) (T := TX2) (N := 6) hx hb hts hinX2 hown hK.1 hP 0 rfl rfl 3 (by decide) (hts (.fieldLink RX2 18 "CairnShells$Strata" "tops" "[I") (by decide +kernel)) (fun _ h9 => h9) rfl dX2_link_37 ?_
          refine lv_iload_n hx hb dX2_link_40 rfl (lv_at hl 0 rfl) ?_
          refine lv_dup2_11 hx hb dX2_link_41 rfl rfl ?_
          refine my_iald (D := D) (j := k) hx hb hK hP 2 rfl (by omega) (by decide) dX2_link_42 ?_
          refine lv_iload_n hx hb dX2_link_43 rfl (lv_at hl 2 rfl) ?_
          refine lv_ior hx hb dX2_link_44 ?_
          refine my_iast (D := D) (j := k) hx hb hK hP hD hS 2 rfl (by omega) (by decide) dX2_link_45 (fun H locs hP hD hS => ?_)
          have hP : va_P D vwCl [(qs, .inr (2, [.int (nI N), .ref qal, .ref qbe, .ref qto, .ref qod, .ref qph])), (qbe, .inl (cA, 14, .inl f1)), (qto, .inl (cA, 14, .inl (upd f2 k ((f2 k) ||| x))))] H := hP
          have hD : va_D A [(qs, .inr (2, [.int (nI N), .ref qal, .ref qbe, .ref qto, .ref qod, .ref qph])), (qbe, .inl (cA, 14, .inl f1)), (qto, .inl (cA, 14, .inl (upd f2 k ((f2 k) ||| x))))] := hD
          refine lv_iinc (v := nI (k + 1)) (x := nI k) (lv' := [(3, .int (nI (k + 1))), (0, .ref qs), (1, .int x), (2, .int y)]) hx hb dX2_link_46 hl (k := 0) rfl (nI_1 k) (by decide) rfl (fun ls hl => ?_)
          refine lv_goto (tgt := 2) hx hb dX2_link_49 (by decide) ?_
          exact ih2 (k + 1) f1 (upd f2 k ((f2 k) ||| x)) (by omega) (by omega) (by subst ef1; subst ef2; first | exact lkU_t h2 | exact lkU_f h2 | exact lkU_t h3 | exact lkU_f h3) (by subst ef1; subst ef2; first | exact lkU_t h2 | exact lkU_f h2 | exact lkU_t h3 | exact lkU_f h3) _ _ hP hD hS _ (lv_sub hl [0, 1, 2, 3] rfl)
      · refine lv_aload_n hx hb dX2_link_18 rfl (lv_at hl 1 rfl) ?_
        refine va_get (D := D) (ci := 2) (v := .ref qbe) (C := RX2) (T := TX2) (N := 6) hx hb hts hinX2 hown hK.1 hP 0 rfl rfl 2 (by decide) (hts (.fieldLink RX2 15 "CairnShells$Strata" "belows" "[I") (by decide +kernel)) (fun _ h9 => h9) rfl dX2_link_19 ?_
        refine lv_iload_n hx hb dX2_link_22 rfl (lv_at hl 0 rfl) ?_
        refine lv_dup2_11 hx hb dX2_link_23 rfl rfl ?_
        refine my_iald (D := D) (j := k) hx hb hK hP 1 rfl (by omega) (by decide) dX2_link_24 ?_
        refine lv_iload_n hx hb dX2_link_25 rfl (lv_at hl 3 rfl) ?_
        refine lv_ior hx hb dX2_link_26 ?_
        refine my_iast (D := D) (j := k) hx hb hK hP hD hS 1 rfl (by omega) (by decide) dX2_link_27 (fun H locs hP hD hS => ?_)
        have hP : va_P D vwCl [(qs, .inr (2, [.int (nI N), .ref qal, .ref qbe, .ref qto, .ref qod, .ref qph])), (qbe, .inl (cA, 14, .inl (upd f1 k ((f1 k) ||| y)))), (qto, .inl (cA, 14, .inl f2))] H := hP
        have hD : va_D A [(qs, .inr (2, [.int (nI N), .ref qal, .ref qbe, .ref qto, .ref qod, .ref qph])), (qbe, .inl (cA, 14, .inl (upd f1 k ((f1 k) ||| y)))), (qto, .inl (cA, 14, .inl f2))] := hD
        refine lv_iload_n hx hb dX2_link_28 rfl (lv_at hl 3 rfl) ?_
        refine lv_iload_n hx hb dX2_link_29 rfl (lv_at hl 0 rfl) ?_
        refine RO_go (va_runSN (As := [.int y, .int (nI k)]) (rest := []) ⟨hx, hb, hml, hown, hts⟩ (c_X3_has l (D := D) (cA := cA) (H0 := H) (x := y) (j := k) (hj := by omega)) ⟨va_cnB 2 hts gX2_link_X3_has_n31 rfl rfl rfl hK.2.2.2.1 (hts (.initialized RX3) (by decide +kernel)) (by decide +kernel) ⟨Nat.le_of_ble_eq_true rfl, Nat.le_of_ble_eq_true rfl⟩, (hts (.static yX3_has) (by decide +kernel)), trivial⟩ (cP_S hK) rfl rfl hl.1 rfl (lv_room (Nat.le_of_ble_eq_true rfl)) dX2_link_30 ⟨by omega, by omega⟩) ?_
        refine my_ifeq_b (tgt := 46) hx hb dX2_link_33 (by decide) (fun h4 => ?_) (fun h4 => ?_)
        · refine lv_iinc (v := nI (k + 1)) (x := nI k) (lv' := [(3, .int (nI (k + 1))), (0, .ref qs), (1, .int x), (2, .int y)]) hx hb dX2_link_46 hl (k := 0) rfl (nI_1 k) (by decide) rfl (fun ls hl => ?_)
          refine lv_goto (tgt := 2) hx hb dX2_link_49 (by decide) ?_
          exact ih2 (k + 1) (upd f1 k ((f1 k) ||| y)) f2 (by omega) (by omega) (by subst ef1; subst ef2; first | exact lkU_t h2 | exact lkU_f h2 | exact lkU_t h4 | exact lkU_f h4) (by subst ef1; subst ef2; first | exact lkU_t h2 | exact lkU_f h2 | exact lkU_t h4 | exact lkU_f h4) _ _ hP hD hS _ (lv_sub hl [0, 1, 2, 3] rfl)
        · refine lv_aload_n hx hb dX2_link_36 rfl (lv_at hl 1 rfl) ?_
          refine va_get (D := D) (ci := 2) (v := .ref qto) (C := RX2) (T := TX2) (N := 6) hx hb hts hinX2 hown hK.1 hP 0 rfl rfl 3 (by decide) (hts (.fieldLink RX2 18 "CairnShells$Strata" "tops" "[I") (by decide +kernel)) (fun _ h9 => h9) rfl dX2_link_37 ?_
          refine lv_iload_n hx hb dX2_link_40 rfl (lv_at hl 0 rfl) ?_
          refine lv_dup2_11 hx hb dX2_link_41 rfl rfl ?_
          refine my_iald (D := D) (j := k) hx hb hK hP 2 rfl (by omega) (by decide) dX2_link_42 ?_
          refine lv_iload_n hx hb dX2_link_43 rfl (lv_at hl 2 rfl) ?_
          refine lv_ior hx hb dX2_link_44 ?_
          refine my_iast (D := D) (j := k) hx hb hK hP hD hS 2 rfl (by omega) (by decide) dX2_link_45 (fun H locs hP hD hS => ?_)
          have hP : va_P D vwCl [(qs, .inr (2, [.int (nI N), .ref qal, .ref qbe, .ref qto, .ref qod, .ref qph])), (qbe, .inl (cA, 14, .inl (upd f1 k ((f1 k) ||| y)))), (qto, .inl (cA, 14, .inl (upd f2 k ((f2 k) ||| x))))] H := hP
          have hD : va_D A [(qs, .inr (2, [.int (nI N), .ref qal, .ref qbe, .ref qto, .ref qod, .ref qph])), (qbe, .inl (cA, 14, .inl (upd f1 k ((f1 k) ||| y)))), (qto, .inl (cA, 14, .inl (upd f2 k ((f2 k) ||| x))))] := hD
          refine lv_iinc (v := nI (k + 1)) (x := nI k) (lv' := [(3, .int (nI (k + 1))), (0, .ref qs), (1, .int x), (2, .int y)]) hx hb dX2_link_46 hl (k := 0) rfl (nI_1 k) (by decide) rfl (fun ls hl => ?_)
          refine lv_goto (tgt := 2) hx hb dX2_link_49 (by decide) ?_
          exact ih2 (k + 1) (upd f1 k ((f1 k) ||| y)) (upd f2 k ((f2 k) ||| x)) (by omega) (by omega) (by subst ef1; subst ef2; first | exact lkU_t h2 | exact lkU_f h2 | exact lkU_t h4 | exact lkU_f h4) (by subst ef1; subst ef2; first | exact lkU_t h2 | exact lkU_f h2 | exact lkU_t h4 | exact lkU_f h4) _ _ hP hD hS _ (lv_sub hl [0, 1, 2, 3] rfl)
set_option maxHeartbeats 4000000 in
set_option maxRecDepth 100000 in
theorem c_X2_arrange (l : Launch) {D : va_G} {cA : ClassId} {H0 : Heap} {qs qal qbe qto qod qph N : Nat} {be od ph : Nat → Int32} (hN1 : 1 ≤ N) (hN : N ≤ 14) (hP : va_P D vwCl [(qs, .inr (2, [.int (nI N), .ref qal, .ref qbe, .ref qto, .ref qod, .ref qph])), (qbe, .inl (cA, 14, .inl be)), (qod, .inl (cA, 14, .inl od)), (qph, .inl (cA, 14, .inl ph))] H0) (hD0 : va_D (fun _ => True) [(qs, .inr (2, [.int (nI N), .ref qal, .ref qbe, .ref qto, .ref qod, .ref qph])), (qbe, .inl (cA, 14, .inl be)), (qod, .inl (cA, 14, .inl od)), (qph, .inl (cA, 14, .inl ph))]) : WR l yX2_arrange wsX2_arrange 2 44 0 0 [.ref qs] D cA H0 none [(qs, .inr (2, [.int (nI N), .ref qal, .ref qbe, .ref qto, .ref qod, .ref qph])), (qbe, .inl (cA, 14, .inl be)), (qod, .inl (cA, 14, .inl od)), (qph, .inl (cA, 14, .inl ph))] [(qs, .inr (2, [.int (nI N), .ref qal, .ref qbe, .ref qto, .ref qod, .ref qph])), (qbe, .inl (cA, 14, .inl be)), (qod, .inl (cA, 14, .inl (arO N be od N))), (qph, .inl (cA, 14, .inl (arP N be ph N)))] := by
  refine WR_of (cc := cX2_arrange) (maxL := 4) (ret := none) (by decide) rfl (Nat.le_of_ble_eq_true rfl) ?_
  intro p e s m below meth c ls hx hb hml hr hown hts hlk hin2 hH hK hl
  have hown : s.vm.findClass RX2 = some m.cls := hown
  have hl : lv_has ls 4 [(0, .ref qs)] := hl
  have hinX2 : ∀ w ∈ wsX20, w ∈ wsX2_arrange := by decide +kernel
  have hD := hD0.self (sz := H0.size)
  obtain ⟨A, hAe⟩ : ∃ A, A = va_A [(qs, .inr (2, [.int (nI N), .ref qal, .ref qbe, .ref qto, .ref qod, .ref qph])), (qbe, .inl (cA, 14, .inl be)), (qod, .inl (cA, 14, .inl od)), (qph, .inl (cA, 14, .inl ph))] H0.size := ⟨_, rfl⟩
  rw [← hAe] at hD ⊢
  have hA : ∀ q : Nat, H0.size ≤ q → A q := fun q h => by rw [hAe]; exact Or.inr h
  have hS : va_S A H0 H0 [] := va_S.rf
  refine lv_iconst (v := 1) hx hb dX2_arrange_0 (by decide) ?_
  refine lv_aload_n hx hb dX2_arrange_1 rfl (lv_at hl 0 rfl) ?_
  refine va_get (D := D) (ci := 2) (v := .int (nI N)) (C := RX2) (T := TX2) (N := 6) hx hb hts hinX2 hown hK.1 hP 0 rfl rfl 0 (by decide) (hts (.fieldLink RX2 27 "CairnShells$Strata" "layers" "I") (by decide +kernel)) (fun _ h9 => h9) rfl dX2_arrange_2 ?_
  refine lv_ishl hx hb dX2_arrange_5 ?_
  refine lv_iconst (v := 1) hx hb dX2_arrange_6 (by decide) ?_
  refine lv_isub hx hb dX2_arrange_7 ?_
  refine lv_istore_n (lv' := [(1, .int (((1 : Int32) <<< ((nI N) &&& 31)) - 1)), (0, .ref qs)]) hx hb dX2_arrange_8 rfl hl (by decide) rfl (fun ls hl => ?_)
  refine lv_iconst (v := 0) hx hb dX2_arrange_9 (by decide) ?_
  refine lv_istore_n (lv' := [(2, .int 0), (1, .int (((1 : Int32) <<< ((nI N) &&& 31)) - 1)), (0, .ref qs)]) hx hb dX2_arrange_10 rfl hl (by decide) rfl (fun ls hl => ?_)
  suffices loop : ∀ (n k : Nat) (lf : Int32) (f1 : Nat → Int32) (f2 : Nat → Int32), k ≤ N → N < k + n → lf = arL N be k → f1 = arO N be od k → f2 = arP N be ph k → ∀ (H : Heap) (locs : List Loc), va_P D vwCl [(qs, .inr (2, [.int (nI N), .ref qal, .ref qbe, .ref qto, .ref qod, .ref qph])), (qbe, .inl (cA, 14, .inl be)), (qod, .inl (cA, 14, .inl f1)), (qph, .inl (cA, 14, .inl f2))] H → va_D A [(qs, .inr (2, [.int (nI N), .ref qal, .ref qbe, .ref qto, .ref qod, .ref qph])), (qbe, .inl (cA, 14, .inl be)), (qod, .inl (cA, 14, .inl f1)), (qph, .inl (cA, 14, .inl f2))] → va_S A H0 H locs → ∀ ls, lv_has ls 4 [(2, .int (nI k)), (1, .int lf), (0, .ref qs)] → W p l e { frames := 2, cells := 0, slots := 0, locals := 44 } s m ([.ref qs] : List Value).toArray below meth c H locs (0) (0) (MQ below (wrQ none D [(qs, .inr (2, [.int (nI N), .ref qal, .ref qbe, .ref qto, .ref qod, .ref qph])), (qbe, .inl (cA, 14, .inl be)), (qod, .inl (cA, 14, .inl od)), (qph, .inl (cA, 14, .inl ph))] [(qs, .inr (2, [.int (nI N), .ref qal, .ref qbe, .ref qto, .ref qod, .ref qph])), (qbe, .inl (cA, 14, .inl be)), (qod, .inl (cA, 14, .inl (arO N be od N))), (qph, .inl (cA, 14, .inl (arP N be ph N)))] H0) ([.ref qs] : List Value).toArray s 0 0 A) (F0 m 11 ls []) from loop (N + 1) 0 (((1 : Int32) <<< ((nI N) &&& 31)) - 1) od ph (by omega) (by omega) (by first | rfl | (simp [arL, arO, arP]; done) | (simp [arL, arO, arP]; done)) (by first | rfl | (simp [arL, arO, arP]; done) | (simp [arL, arO, arP]; done)) (by first | rfl | (simp [arL, arO, arP]; done) | (simp [arL, arO, arP]; done)) _ _ hP hD hS _ (lv_sub hl [0, 1, 2] rfl)
  intro n
  induction n with
  | zero => intro k lf f1 f2 hk1 hk2; exact absurd hk2 (by omega)
  | succ n ih11 =>
    intro k lf f1 f2 hk11 hn11 elf ef1 ef2 H locs hP hD hS ls hl
    refine lv_iload_n hx hb dX2_arrange_11 rfl (lv_at hl 0 rfl) ?_
    refine lv_aload_n hx hb dX2_arrange_12 rfl (lv_at hl 2 rfl) ?_
    refine va_get (D := D) (ci := 2) (v := .int (nI N)) (C := RX2) (T := TX2) (N := 6) hx hb hts hinX2 hown hK.1 hP 0 rfl rfl 0 (by decide) (hts (.fieldLink RX2 27 "CairnShells$Strata" "layers" "I") (by decide +kernel)) (fun _ h9 => h9) rfl dX2_arrange_13 ?_
    refine my_geN (x := k) (y := N) (tgt := 62) hx hb dX2_arrange_16 (by decide) (by omega) (by omega) (fun h1 => ?_) (fun h1 => ?_)
    · obtain rfl : N = k := by omega
      subst elf
      subst ef1
      subst ef2
      exact WR_vret hAe hx hb hr hlk hH dX2_arrange_62 (by omega) (by omega) (hP.sub [0, 1, 2, 3] rfl) hS
    · refine lv_aload_n hx hb dX2_arrange_19 rfl (lv_at hl 2 rfl) ?_
      refine lv_iload_n hx hb dX2_arrange_20 rfl (lv_at hl 1 rfl) ?_
      refine RO_go (va_runV (As := [.int lf]) (rest := []) ⟨hx, hb, hml, hown, hts⟩ (c_X2_lowestFree l (D := D) (cA := cA) (H0 := H) (x := lf) (hN1 := by omega) (hN := by omega) (hP := hP.sub (ws' := [(qs, .inr (2, [.int (nI N), .ref qal, .ref qbe, .ref qto, .ref qod, .ref qph])), (qbe, .inl (cA, 14, .inl be))]) [0, 1] rfl)) (cwV 1 hts gX2_arrange_X2_lowestFree rfl rfl rfl (by decide +kernel) ⟨Nat.le_of_ble_eq_true rfl, Nat.le_of_ble_eq_true rfl⟩) (cP_V hK (va_recv hK.1 hP (ci := 2) (q0 := 0) rfl rfl)) rfl rfl hl.1 rfl (lv_room (Nat.le_of_ble_eq_true rfl)) dX2_arrange_21 ⟨by omega, by omega⟩) ?_
      refine lv_istore_n (lv' := [(3, .int (nI (fnd (fre be lf) (N - 1)))), (2, .int (nI k)), (1, .int lf), (0, .ref qs)]) hx hb dX2_arrange_24 rfl hl (by decide) rfl (fun ls hl => ?_)
      have hlt := fnd_le (fre be lf) (N - 1)
      refine lv_aload_n hx hb dX2_arrange_25 rfl (lv_at hl 3 rfl) ?_
      refine va_get (D := D) (ci := 2) (v := .ref qod) (C := RX2) (T := TX2) (N := 6) hx hb hts hinX2 hown hK.1 hP 0 rfl rfl 4 (by decide) (hts (.fieldLink RX2 21 "CairnShells$Strata" "order" "[I") (by decide +kernel)) (fun _ h9 => h9) rfl dX2_arrange_26 ?_
      refine lv_iload_n hx hb dX2_arrange_29 rfl (lv_at hl 1 rfl) ?_
      refine lv_iload_n hx hb dX2_arrange_30 rfl (lv_at hl 0 rfl) ?_
      refine my_iast (D := D) (j := k) hx hb hK hP hD hS 2 rfl (by omega) (by decide) dX2_arrange_31 (fun H locs hP hD hS => ?_)
      have hP : va_P D vwCl [(qs, .inr (2, [.int (nI N), .ref qal, .ref qbe, .ref qto, .ref qod, .ref qph])), (qbe, .inl (cA, 14, .inl be)), (qod, .inl (cA, 14, .inl (upd f1 k (nI (fnd (fre be lf) (N - 1)))))), (qph, .inl (cA, 14, .inl f2))] H := hP
      have hD : va_D A [(qs, .inr (2, [.int (nI N), .ref qal, .ref qbe, .ref qto, .ref qod, .ref qph])), (qbe, .inl (cA, 14, .inl be)), (qod, .inl (cA, 14, .inl (upd f1 k (nI (fnd (fre be lf) (N - 1)))))), (qph, .inl (cA, 14, .inl f2))] := hD
      refine lv_aload_n hx hb dX2_arrange_32 rfl (lv_at hl 3 rfl) ?_
      refine va_get (D := D) (ci := 2) (v := .ref qph) (C := RX2) (T := TX2) (N := 6) hx hb hts hinX2 hown hK.1 hP 0 rfl rfl 5 (by decide) (hts (.fieldLink RX2 24 "CairnShells$Strata" "phaseOf" "[I") (by decide +kernel)) (fun _ h9 => h9) rfl dX2_arrange_33 ?_
      refine lv_iload_n hx hb dX2_arrange_36 rfl (lv_at hl 0 rfl) ?_
      refine lv_aload_n hx hb dX2_arrange_37 rfl (lv_at hl 3 rfl) ?_
      refine lv_aload_n hx hb dX2_arrange_38 rfl (lv_at hl 3 rfl) ?_
      refine va_get (D := D) (ci := 2) (v := .ref qbe) (C := RX2) (T := TX2) (N := 6) hx hb hts hinX2 hown hK.1 hP 0 rfl rfl 2 (by decide) (hts (.fieldLink RX2 15 "CairnShells$Strata" "belows" "[I") (by decide +kernel)) (fun _ h9 => h9) rfl dX2_arrange_39 ?_
      refine lv_iload_n hx hb dX2_arrange_42 rfl (lv_at hl 0 rfl) ?_
      refine my_iald (D := D) (j := fnd (fre be lf) (N - 1)) hx hb hK hP 1 rfl (by omega) (by decide) dX2_arrange_43 ?_
      refine RO_go (va_runV (As := [.int (be (fnd (fre be lf) (N - 1)))]) (rest := [.int (nI (fnd (fre be lf) (N - 1))), .ref qph]) ⟨hx, hb, hml, hown, hts⟩ (c_X2_phaseOver l (D := D) (cA := cA) (H0 := H) (x := be (fnd (fre be lf) (N - 1))) (hN := by omega) (hP := hP.sub (ws' := [(qs, .inr (2, [.int (nI N), .ref qal, .ref qbe, .ref qto, .ref qod, .ref qph])), (qph, .inl (cA, 14, .inl f2))]) [0, 3] rfl)) (cwV 1 hts gX2_arrange_X2_phaseOver rfl rfl rfl (by decide +kernel) ⟨Nat.le_of_ble_eq_true rfl, Nat.le_of_ble_eq_true rfl⟩) (cP_V hK (va_recv hK.1 hP (ci := 2) (q0 := 0) rfl rfl)) rfl rfl hl.1 rfl (lv_room (Nat.le_of_ble_eq_true rfl)) dX2_arrange_44 ⟨by omega, by omega⟩) ?_
      refine my_iast (D := D) (j := fnd (fre be lf) (N - 1)) hx hb hK hP hD hS 3 rfl (by omega) (by decide) dX2_arrange_47 (fun H locs hP hD hS => ?_)
      have hP : va_P D vwCl [(qs, .inr (2, [.int (nI N), .ref qal, .ref qbe, .ref qto, .ref qod, .ref qph])), (qbe, .inl (cA, 14, .inl be)), (qod, .inl (cA, 14, .inl (upd f1 k (nI (fnd (fre be lf) (N - 1)))))), (qph, .inl (cA, 14, .inl (upd f2 (fnd (fre be lf) (N - 1)) (pO f2 (be (fnd (fre be lf) (N - 1))) N))))] H := hP
      have hD : va_D A [(qs, .inr (2, [.int (nI N), .ref qal, .ref qbe, .ref qto, .ref qod, .ref qph])), (qbe, .inl (cA, 14, .inl be)), (qod, .inl (cA, 14, .inl (upd f1 k (nI (fnd (fre be lf) (N - 1)))))), (qph, .inl (cA, 14, .inl (upd f2 (fnd (fre be lf) (N - 1)) (pO f2 (be (fnd (fre be lf) (N - 1))) N))))] := hD
      refine lv_iload_n hx hb dX2_arrange_48 rfl (lv_at hl 2 rfl) ?_
      refine lv_iconst (v := 1) hx hb dX2_arrange_49 (by decide) ?_
      refine lv_iload_n hx hb dX2_arrange_50 rfl (lv_at hl 0 rfl) ?_
      refine lv_ishl hx hb dX2_arrange_51 ?_
      refine lv_iconst (v := (-1)) hx hb dX2_arrange_52 (by decide) ?_
      refine lv_ixor hx hb dX2_arrange_53 ?_
      refine lv_iand hx hb dX2_arrange_54 ?_
      refine lv_istore_n (lv' := [(1, .int (lf &&& (((1 : Int32) <<< ((nI (fnd (fre be lf) (N - 1))) &&& 31)) ^^^ (-1)))), (3, .int (nI (fnd (fre be lf) (N - 1)))), (2, .int (nI k)), (0, .ref qs)]) hx hb dX2_arrange_55 rfl hl (by decide) rfl (fun ls hl => ?_)
      refine lv_iinc (v := nI (k + 1)) (x := nI k) (lv' := [(2, .int (nI (k + 1))), (1, .int (lf &&& (((1 : Int32) <<< ((nI (fnd (fre be lf) (N - 1))) &&& 31)) ^^^ (-1)))), (3, .int (nI (fnd (fre be lf) (N - 1)))), (0, .ref qs)]) hx hb dX2_arrange_56 hl (k := 2) rfl (nI_1 k) (by decide) rfl (fun ls hl => ?_)
      refine lv_goto (tgt := 11) hx hb dX2_arrange_59 (by decide) ?_
      exact ih11 (k + 1) (lf &&& (((1 : Int32) <<< ((nI (fnd (fre be lf) (N - 1))) &&& 31)) ^^^ (-1))) (upd f1 k (nI (fnd (fre be lf) (N - 1)))) (upd f2 (fnd (fre be lf) (N - 1)) (pO f2 (be (fnd (fre be lf) (N - 1))) N)) (by omega) (by omega) (by subst elf; subst ef1; subst ef2; rfl) (by subst elf; subst ef1; subst ef2; rfl) (by subst elf; subst ef1; subst ef2; rfl) _ _ hP hD hS _ (lv_sub hl [0, 1, 3] rfl)
set_option maxHeartbeats 4000000 in
set_option maxRecDepth 100000 in
theorem c_X2_addLayer (l : Launch) {D : va_G} {cA : ClassId} {H0 : Heap} {qs qal qbe qto qod qph N : Nat} {al be od ph : Nat → Int32} (hN : N < 14) (hP : va_P D vwCl [(qs, .inr (2, [.int (nI N), .ref qal, .ref qbe, .ref qto, .ref qod, .ref qph])), (qal, .inl (cA, 14, .inl al)), (qbe, .inl (cA, 14, .inl be)), (qod, .inl (cA, 14, .inl od)), (qph, .inl (cA, 14, .inl ph))] H0) (hD0 : va_D (fun _ => True) [(qs, .inr (2, [.int (nI N), .ref qal, .ref qbe, .ref qto, .ref qod, .ref qph])), (qal, .inl (cA, 14, .inl al)), (qbe, .inl (cA, 14, .inl be)), (qod, .inl (cA, 14, .inl od)), (qph, .inl (cA, 14, .inl ph))]) : WR l yX2_addLayer wsX2_addLayer 3 67 0 0 [.ref qs] D cA H0 (some (.int (nI N))) [(qs, .inr (2, [.int (nI N), .ref qal, .ref qbe, .ref qto, .ref qod, .ref qph])), (qal, .inl (cA, 14, .inl al)), (qbe, .inl (cA, 14, .inl be)), (qod, .inl (cA, 14, .inl od)), (qph, .inl (cA, 14, .inl ph))] [(qs, .inr (2, [.int (nI (N + 1)), .ref qal, .ref qbe, .ref qto, .ref qod, .ref qph])), (qal, .inl (cA, 14, .inl (upd al N (1 <<< (nI N &&& 31))))), (qbe, .inl (cA, 14, .inl be)), (qod, .inl (cA, 14, .inl (arO (N + 1) be od (N + 1)))), (qph, .inl (cA, 14, .inl (arP (N + 1) be ph (N + 1))))] := by
  refine WR_of (cc := cX2_addLayer) (maxL := 2) (ret := (some .int)) (by decide) rfl (Nat.le_of_ble_eq_true rfl) ?_
  intro p e s m below meth c ls hx hb hml hr hown hts hlk hin2 hH hK hl
  have hown : s.vm.findClass RX2 = some m.cls := hown
  have hl : lv_has ls 2 [(0, .ref qs)] := hl
  have hinX2 : ∀ w ∈ wsX20, w ∈ wsX2_addLayer := by decide +kernel
  have hD := hD0.self (sz := H0.size)
  obtain ⟨A, hAe⟩ : ∃ A, A = va_A [(qs, .inr (2, [.int (nI N), .ref qal, .ref qbe, .ref qto, .ref qod, .ref qph])), (qal, .inl (cA, 14, .inl al)), (qbe, .inl (cA, 14, .inl be)), (qod, .inl (cA, 14, .inl od)), (qph, .inl (cA, 14, .inl ph))] H0.size := ⟨_, rfl⟩
  rw [← hAe] at hD ⊢
  have hA : ∀ q : Nat, H0.size ≤ q → A q := fun q h => by rw [hAe]; exact Or.inr h
  have hS : va_S A H0 H0 [] := va_S.rf
  refine lv_aload_n hx hb dX2_addLayer_0 rfl (lv_at hl 0 rfl) ?_
  refine va_get (D := D) (ci := 2) (v := .int (nI N)) (C := RX2) (T := TX2) (N := 6) hx hb hts hinX2 hown hK.1 hP 0 rfl rfl 0 (by decide) (hts (.fieldLink RX2 27 "CairnShells$Strata" "layers" "I") (by decide +kernel)) (fun _ h9 => h9) rfl dX2_addLayer_1 ?_
  refine lv_istore_n (lv' := [(1, .int (nI N)), (0, .ref qs)]) hx hb dX2_addLayer_4 rfl hl (by decide) rfl (fun ls hl => ?_)
  refine lv_aload_n hx hb dX2_addLayer_5 rfl (lv_at hl 1 rfl) ?_
  refine va_get (D := D) (ci := 2) (v := .ref qal) (C := RX2) (T := TX2) (N := 6) hx hb hts hinX2 hown hK.1 hP 0 rfl rfl 1 (by decide) (hts (.fieldLink RX2 9 "CairnShells$Strata" "alikes" "[I") (by decide +kernel)) (fun _ h9 => h9) rfl dX2_addLayer_6 ?_
  refine lv_iload_n hx hb dX2_addLayer_9 rfl (lv_at hl 0 rfl) ?_
  refine lv_iconst (v := 1) hx hb dX2_addLayer_10 (by decide) ?_
  refine lv_iload_n hx hb dX2_addLayer_11 rfl (lv_at hl 0 rfl) ?_
  refine lv_ishl hx hb dX2_addLayer_12 ?_
  refine my_iast (D := D) (j := N) hx hb hK hP hD hS 1 rfl (by omega) (by decide) dX2_addLayer_13 (fun H locs hP hD hS => ?_)
  have hP : va_P D vwCl [(qs, .inr (2, [.int (nI N), .ref qal, .ref qbe, .ref qto, .ref qod, .ref qph])), (qal, .inl (cA, 14, .inl (upd al N ((1 : Int32) <<< ((nI N) &&& 31))))), (qbe, .inl (cA, 14, .inl be)), (qod, .inl (cA, 14, .inl od)), (qph, .inl (cA, 14, .inl ph))] H := hP
  have hD : va_D A [(qs, .inr (2, [.int (nI N), .ref qal, .ref qbe, .ref qto, .ref qod, .ref qph])), (qal, .inl (cA, 14, .inl (upd al N ((1 : Int32) <<< ((nI N) &&& 31))))), (qbe, .inl (cA, 14, .inl be)), (qod, .inl (cA, 14, .inl od)), (qph, .inl (cA, 14, .inl ph))] := hD
  refine lv_aload_n hx hb dX2_addLayer_14 rfl (lv_at hl 1 rfl) ?_
  refine lv_iload_n hx hb dX2_addLayer_15 rfl (lv_at hl 0 rfl) ?_
  refine lv_iconst (v := 1) hx hb dX2_addLayer_16 (by decide) ?_
  refine my_iaddN (x := N) (y := 1) hx hb dX2_addLayer_17 ?_
  refine va_put (D := D) (ci := 2) (v := .int (nI (N + 1))) (ty := .int) (C := RX2) (T := TX2) (N := 6) hx hb hts hinX2 tyX2 tyX2_ok nmX2 hown hK.1 hP hD hS 0 rfl rfl 0 (by decide) (hts (.fieldLink RX2 27 "CairnShells$Strata" "layers" "I") (by decide +kernel)) (fun _ h9 => h9) rfl (by decide +kernel) rfl rfl (Nat.le_of_ble_eq_true rfl) dX2_addLayer_18 (fun H locs hP hD hS => ?_)
  have hP : va_P D vwCl [(qs, .inr (2, [.int (nI (N + 1)), .ref qal, .ref qbe, .ref qto, .ref qod, .ref qph])), (qal, .inl (cA, 14, .inl (upd al N ((1 : Int32) <<< ((nI N) &&& 31))))), (qbe, .inl (cA, 14, .inl be)), (qod, .inl (cA, 14, .inl od)), (qph, .inl (cA, 14, .inl ph))] H := hP
  have hD : va_D A [(qs, .inr (2, [.int (nI (N + 1)), .ref qal, .ref qbe, .ref qto, .ref qod, .ref qph])), (qal, .inl (cA, 14, .inl (upd al N ((1 : Int32) <<< ((nI N) &&& 31))))), (qbe, .inl (cA, 14, .inl be)), (qod, .inl (cA, 14, .inl od)), (qph, .inl (cA, 14, .inl ph))] := hD
  refine lv_aload_n hx hb dX2_addLayer_21 rfl (lv_at hl 1 rfl) ?_
  refine WR_go (ws' := [(qs, .inr (2, [.int (nI (N + 1)), .ref qal, .ref qbe, .ref qto, .ref qod, .ref qph])), (qal, .inl (cA, 14, .inl (upd al N ((1 : Int32) <<< ((nI N) &&& 31))))), (qbe, .inl (cA, 14, .inl be)), (qod, .inl (cA, 14, .inl (arO (N + 1) be od (N + 1)))), (qph, .inl (cA, 14, .inl (arP (N + 1) be ph (N + 1))))]) (va_runV (As := []) (rest := []) ⟨hx, hb, hml, hown, hts⟩ (c_X2_arrange l (D := D) (cA := cA) (H0 := H) (hN1 := by omega) (hN := by omega) (hP := hP.sub (ws' := [(qs, .inr (2, [.int (nI (N + 1)), .ref qal, .ref qbe, .ref qto, .ref qod, .ref qph])), (qbe, .inl (cA, 14, .inl be)), (qod, .inl (cA, 14, .inl od)), (qph, .inl (cA, 14, .inl ph))]) [0, 2, 3, 4] rfl) (hD0 := (hD.sub (ws' := [(qs, .inr (2, [.int (nI (N + 1)), .ref qal, .ref qbe, .ref qto, .ref qod, .ref qph])), (qbe, .inl (cA, 14, .inl be)), (qod, .inl (cA, 14, .inl od)), (qph, .inl (cA, 14, .inl ph))]) [0, 2, 3, 4] (by decide) rfl).weaken (fun _ _ _ _ => trivial))) (cwV 0 hts gX2_addLayer_X2_arrange rfl rfl rfl (by decide +kernel) ⟨Nat.le_of_ble_eq_true rfl, Nat.le_of_ble_eq_true rfl⟩) (cP_V hK (va_recv hK.1 hP (ci := 2) (q0 := 0) rfl rfl)) rfl rfl hl.1 rfl (lv_room (Nat.le_of_ble_eq_true rfl)) dX2_addLayer_22 ⟨by omega, by omega⟩) hP hD hS hA [0, 2, 3, 4] [1] rfl (by decide) (by decide) [1, 0, 2, 3, 4] rfl (fun H locs hP hS hz => ?_)
  have hD : va_D A [(qs, .inr (2, [.int (nI (N + 1)), .ref qal, .ref qbe, .ref qto, .ref qod, .ref qph])), (qal, .inl (cA, 14, .inl (upd al N ((1 : Int32) <<< ((nI N) &&& 31))))), (qbe, .inl (cA, 14, .inl be)), (qod, .inl (cA, 14, .inl (arO (N + 1) be od (N + 1)))), (qph, .inl (cA, 14, .inl (arP (N + 1) be ph (N + 1))))] := hD.adr rfl
  refine lv_iload_n hx hb dX2_addLayer_25 rfl (lv_at hl 0 rfl) ?_
  exact WR_zret hAe hx hb hr hlk hH dX2_addLayer_26 (by omega) (by omega) (hP.sub [0, 1, 2, 3, 4] rfl) hS (by rfl) rfl
set_option maxHeartbeats 4000000 in
set_option maxRecDepth 100000 in
theorem c_X2_putAbove (l : Launch) {D : va_G} {cA : ClassId} {H0 : Heap} {qs qal qbe qto qod qph N : Nat} {al be to od ph : Nat → Int32} (i : Nat) (j : Nat) (hi : i < 14) (hj : j < 14) (hN1 : 1 ≤ N) (hN : N ≤ 14) (hP : va_P D vwCl [(qs, .inr (2, [.int (nI N), .ref qal, .ref qbe, .ref qto, .ref qod, .ref qph])), (qal, .inl (cA, 14, .inl al)), (qbe, .inl (cA, 14, .inl be)), (qto, .inl (cA, 14, .inl to)), (qod, .inl (cA, 14, .inl od)), (qph, .inl (cA, 14, .inl ph))] H0) (hD0 : va_D (fun _ => True) [(qs, .inr (2, [.int (nI N), .ref qal, .ref qbe, .ref qto, .ref qod, .ref qph])), (qal, .inl (cA, 14, .inl al)), (qbe, .inl (cA, 14, .inl be)), (qto, .inl (cA, 14, .inl to)), (qod, .inl (cA, 14, .inl od)), (qph, .inl (cA, 14, .inl ph))]) : WR l yX2_putAbove wsX2_putAbove 3 67 0 0 [.ref qs, .int (nI i), .int (nI j)] D cA H0 none [(qs, .inr (2, [.int (nI N), .ref qal, .ref qbe, .ref qto, .ref qod, .ref qph])), (qal, .inl (cA, 14, .inl al)), (qbe, .inl (cA, 14, .inl be)), (qto, .inl (cA, 14, .inl to)), (qod, .inl (cA, 14, .inl od)), (qph, .inl (cA, 14, .inl ph))] [(qs, .inr (2, [.int (nI N), .ref qal, .ref qbe, .ref qto, .ref qod, .ref qph])), (qal, .inl (cA, 14, .inl al)), (qbe, .inl (cA, 14, .inl (lkU be (al i ||| to i) (al j ||| be j) N))), (qto, .inl (cA, 14, .inl (lkU to (al j ||| be j) (al i ||| to i) N))), (qod, .inl (cA, 14, .inl (arO N (lkU be (al i ||| to i) (al j ||| be j) N) od N))), (qph, .inl (cA, 14, .inl (arP N (lkU be (al i ||| to i) (al j ||| be j) N) ph N)))] := by
  refine WR_of (cc := cX2_putAbove) (maxL := 3) (ret := none) (by decide) rfl (Nat.le_of_ble_eq_true rfl) ?_
  intro p e s m below meth c ls hx hb hml hr hown hts hlk hin2 hH hK hl
  have hown : s.vm.findClass RX2 = some m.cls := hown
  have hl : lv_has ls 3 [(0, .ref qs), (1, .int (nI i)), (2, .int (nI j))] := hl
  have hinX2 : ∀ w ∈ wsX20, w ∈ wsX2_putAbove := by decide +kernel
  have hD := hD0.self (sz := H0.size)
  obtain ⟨A, hAe⟩ : ∃ A, A = va_A [(qs, .inr (2, [.int (nI N), .ref qal, .ref qbe, .ref qto, .ref qod, .ref qph])), (qal, .inl (cA, 14, .inl al)), (qbe, .inl (cA, 14, .inl be)), (qto, .inl (cA, 14, .inl to)), (qod, .inl (cA, 14, .inl od)), (qph, .inl (cA, 14, .inl ph))] H0.size := ⟨_, rfl⟩
  rw [← hAe] at hD ⊢
  have hA : ∀ q : Nat, H0.size ≤ q → A q := fun q h => by rw [hAe]; exact Or.inr h
  have hS : va_S A H0 H0 [] := va_S.rf
  refine lv_aload_n hx hb dX2_putAbove_0 rfl (lv_at hl 0 rfl) ?_
  refine lv_aload_n hx hb dX2_putAbove_1 rfl (lv_at hl 0 rfl) ?_
  refine va_get (D := D) (ci := 2) (v := .ref qal) (C := RX2) (T := TX2) (N := 6) hx hb hts hinX2 hown hK.1 hP 0 rfl rfl 1 (by decide) (hts (.fieldLink RX2 9 "CairnShells$Strata" "alikes" "[I") (by decide +kernel)) (fun _ h9 => h9) rfl dX2_putAbove_2 ?_
  refine lv_iload_n hx hb dX2_putAbove_5 rfl (lv_at hl 1 rfl) ?_
  refine my_iald (D := D) (j := i) hx hb hK hP 1 rfl (by omega) (by decide) dX2_putAbove_6 ?_
  refine lv_aload_n hx hb dX2_putAbove_7 rfl (lv_at hl 0 rfl) ?_
  refine va_get (D := D) (ci := 2) (v := .ref qto) (C := RX2) (T := TX2) (N := 6) hx hb hts hinX2 hown hK.1 hP 0 rfl rfl 3 (by decide) (hts (.fieldLink RX2 18 "CairnShells$Strata" "tops" "[I") (by decide +kernel)) (fun _ h9 => h9) rfl dX2_putAbove_8 ?_
  refine lv_iload_n hx hb dX2_putAbove_11 rfl (lv_at hl 1 rfl) ?_
  refine my_iald (D := D) (j := i) hx hb hK hP 3 rfl (by omega) (by decide) dX2_putAbove_12 ?_
  refine lv_ior hx hb dX2_putAbove_13 ?_
  refine lv_aload_n hx hb dX2_putAbove_14 rfl (lv_at hl 0 rfl) ?_
  refine va_get (D := D) (ci := 2) (v := .ref qal) (C := RX2) (T := TX2) (N := 6) hx hb hts hinX2 hown hK.1 hP 0 rfl rfl 1 (by decide) (hts (.fieldLink RX2 9 "CairnShells$Strata" "alikes" "[I") (by decide +kernel)) (fun _ h9 => h9) rfl dX2_putAbove_15 ?_
  refine lv_iload_n hx hb dX2_putAbove_18 rfl (lv_at hl 2 rfl) ?_
  refine my_iald (D := D) (j := j) hx hb hK hP 1 rfl (by omega) (by decide) dX2_putAbove_19 ?_
  refine lv_aload_n hx hb dX2_putAbove_20 rfl (lv_at hl 0 rfl) ?_
  refine va_get (D := D) (ci := 2) (v := .ref qbe) (C := RX2) (T := TX2) (N := 6) hx hb hts hinX2 hown hK.1 hP 0 rfl rfl 2 (by decide) (hts (.fieldLink RX2 15 "CairnShells$Strata" "belows" "[I") (by decide +kernel)) (fun _ h9 => h9) rfl dX2_putAbove_21 ?_
  refine lv_iload_n hx hb dX2_putAbove_24 rfl (lv_at hl 2 rfl) ?_
  refine my_iald (D := D) (j := j) hx hb hK hP 2 rfl (by omega) (by decide) dX2_putAbove_25 ?_
  refine lv_ior hx hb dX2_putAbove_26 ?_
  refine WR_go (ws' := [(qs, .inr (2, [.int (nI N), .ref qal, .ref qbe, .ref qto, .ref qod, .ref qph])), (qal, .inl (cA, 14, .inl al)), (qbe, .inl (cA, 14, .inl (lkU be ((al i) ||| (to i)) ((al j) ||| (be j)) N))), (qto, .inl (cA, 14, .inl (lkU to ((al j) ||| (be j)) ((al i) ||| (to i)) N))), (qod, .inl (cA, 14, .inl od)), (qph, .inl (cA, 14, .inl ph))]) (va_runV (As := [.int ((al i) ||| (to i)), .int ((al j) ||| (be j))]) (rest := []) ⟨hx, hb, hml, hown, hts⟩ (c_X2_link l (D := D) (cA := cA) (H0 := H0) (x := (al i) ||| (to i)) (y := (al j) ||| (be j)) (hN := by omega) (hP := hP.sub (ws' := [(qs, .inr (2, [.int (nI N), .ref qal, .ref qbe, .ref qto, .ref qod, .ref qph])), (qbe, .inl (cA, 14, .inl be)), (qto, .inl (cA, 14, .inl to))]) [0, 2, 3] rfl) (hD0 := (hD.sub (ws' := [(qs, .inr (2, [.int (nI N), .ref qal, .ref qbe, .ref qto, .ref qod, .ref qph])), (qbe, .inl (cA, 14, .inl be)), (qto, .inl (cA, 14, .inl to))]) [0, 2, 3] (by decide) rfl).weaken (fun _ _ _ _ => trivial))) (cwV 2 hts gX2_putAbove_X2_link rfl rfl rfl (by decide +kernel) ⟨Nat.le_of_ble_eq_true rfl, Nat.le_of_ble_eq_true rfl⟩) (cP_V hK (va_recv hK.1 hP (ci := 2) (q0 := 0) rfl rfl)) rfl rfl hl.1 rfl (lv_room (Nat.le_of_ble_eq_true rfl)) dX2_putAbove_27 ⟨by omega, by omega⟩) hP hD hS hA [0, 2, 3] [1, 4, 5] rfl (by decide) (by decide) [3, 0, 4, 5, 1, 2] rfl (fun H locs hP hS hz => ?_)
  have hD : va_D A [(qs, .inr (2, [.int (nI N), .ref qal, .ref qbe, .ref qto, .ref qod, .ref qph])), (qal, .inl (cA, 14, .inl al)), (qbe, .inl (cA, 14, .inl (lkU be ((al i) ||| (to i)) ((al j) ||| (be j)) N))), (qto, .inl (cA, 14, .inl (lkU to ((al j) ||| (be j)) ((al i) ||| (to i)) N))), (qod, .inl (cA, 14, .inl od)), (qph, .inl (cA, 14, .inl ph))] := hD.adr rfl
  refine lv_aload_n hx hb dX2_putAbove_30 rfl (lv_at hl 0 rfl) ?_
  refine WR_go (ws' := [(qs, .inr (2, [.int (nI N), .ref qal, .ref qbe, .ref qto, .ref qod, .ref qph])), (qal, .inl (cA, 14, .inl al)), (qbe, .inl (cA, 14, .inl (lkU be ((al i) ||| (to i)) ((al j) ||| (be j)) N))), (qto, .inl (cA, 14, .inl (lkU to ((al j) ||| (be j)) ((al i) ||| (to i)) N))), (qod, .inl (cA, 14, .inl (arO N (lkU be ((al i) ||| (to i)) ((al j) ||| (be j)) N) od N))), (qph, .inl (cA, 14, .inl (arP N (lkU be ((al i) ||| (to i)) ((al j) ||| (be j)) N) ph N)))]) (va_runV (As := []) (rest := []) ⟨hx, hb, hml, hown, hts⟩ (c_X2_arrange l (D := D) (cA := cA) (H0 := H) (hN1 := by omega) (hN := by omega) (hP := hP.sub (ws' := [(qs, .inr (2, [.int (nI N), .ref qal, .ref qbe, .ref qto, .ref qod, .ref qph])), (qbe, .inl (cA, 14, .inl (lkU be ((al i) ||| (to i)) ((al j) ||| (be j)) N))), (qod, .inl (cA, 14, .inl od)), (qph, .inl (cA, 14, .inl ph))]) [0, 2, 4, 5] rfl) (hD0 := (hD.sub (ws' := [(qs, .inr (2, [.int (nI N), .ref qal, .ref qbe, .ref qto, .ref qod, .ref qph])), (qbe, .inl (cA, 14, .inl (lkU be ((al i) ||| (to i)) ((al j) ||| (be j)) N))), (qod, .inl (cA, 14, .inl od)), (qph, .inl (cA, 14, .inl ph))]) [0, 2, 4, 5] (by decide) rfl).weaken (fun _ _ _ _ => trivial))) (cwV 0 hts gX2_putAbove_X2_arrange rfl rfl rfl (by decide +kernel) ⟨Nat.le_of_ble_eq_true rfl, Nat.le_of_ble_eq_true rfl⟩) (cP_V hK (va_recv hK.1 hP (ci := 2) (q0 := 0) rfl rfl)) rfl rfl hl.1 rfl (lv_room (Nat.le_of_ble_eq_true rfl)) dX2_putAbove_31 ⟨by omega, by omega⟩) hP hD hS hA [0, 2, 4, 5] [1, 3] rfl (by decide) (by decide) [2, 0, 3, 1, 4, 5] rfl (fun H locs hP hS hz => ?_)
  have hD : va_D A [(qs, .inr (2, [.int (nI N), .ref qal, .ref qbe, .ref qto, .ref qod, .ref qph])), (qal, .inl (cA, 14, .inl al)), (qbe, .inl (cA, 14, .inl (lkU be ((al i) ||| (to i)) ((al j) ||| (be j)) N))), (qto, .inl (cA, 14, .inl (lkU to ((al j) ||| (be j)) ((al i) ||| (to i)) N))), (qod, .inl (cA, 14, .inl (arO N (lkU be ((al i) ||| (to i)) ((al j) ||| (be j)) N) od N))), (qph, .inl (cA, 14, .inl (arP N (lkU be ((al i) ||| (to i)) ((al j) ||| (be j)) N) ph N)))] := hD.adr rfl
  exact WR_vret hAe hx hb hr hlk hH dX2_putAbove_34 (by omega) (by omega) (hP.sub [0, 1, 2, 3, 4, 5] rfl) hS
set_option maxHeartbeats 4000000 in
set_option maxRecDepth 100000 in
theorem c_X2_join (l : Launch) {D : va_G} {cA : ClassId} {H0 : Heap} {qs qal qbe qto qod qph N : Nat} {al be to od ph : Nat → Int32} (i : Nat) (j : Nat) (hi : i < 14) (hj : j < 14) (hN1 : 1 ≤ N) (hN : N ≤ 14) (hP : va_P D vwCl [(qs, .inr (2, [.int (nI N), .ref qal, .ref qbe, .ref qto, .ref qod, .ref qph])), (qal, .inl (cA, 14, .inl al)), (qbe, .inl (cA, 14, .inl be)), (qto, .inl (cA, 14, .inl to)), (qod, .inl (cA, 14, .inl od)), (qph, .inl (cA, 14, .inl ph))] H0) (hD0 : va_D (fun _ => True) [(qs, .inr (2, [.int (nI N), .ref qal, .ref qbe, .ref qto, .ref qod, .ref qph])), (qal, .inl (cA, 14, .inl al)), (qbe, .inl (cA, 14, .inl be)), (qto, .inl (cA, 14, .inl to)), (qod, .inl (cA, 14, .inl od)), (qph, .inl (cA, 14, .inl ph))]) : WR l yX2_join wsX2_join 3 67 0 0 [.ref qs, .int (nI i), .int (nI j)] D cA H0 none [(qs, .inr (2, [.int (nI N), .ref qal, .ref qbe, .ref qto, .ref qod, .ref qph])), (qal, .inl (cA, 14, .inl al)), (qbe, .inl (cA, 14, .inl be)), (qto, .inl (cA, 14, .inl to)), (qod, .inl (cA, 14, .inl od)), (qph, .inl (cA, 14, .inl ph))] [(qs, .inr (2, [.int (nI N), .ref qal, .ref qbe, .ref qto, .ref qod, .ref qph])), (qal, .inl (cA, 14, .inl (stU al (al i ||| al j) N))), (qbe, .inl (cA, 14, .inl (lkU (lkU be ((al i ||| al j) ||| (to i ||| to j)) (be i ||| be j) N) (to i ||| to j) (al i ||| al j) N))), (qto, .inl (cA, 14, .inl (lkU (lkU to (be i ||| be j) ((al i ||| al j) ||| (to i ||| to j)) N) (al i ||| al j) (to i ||| to j) N))), (qod, .inl (cA, 14, .inl (arO N (lkU (lkU be ((al i ||| al j) ||| (to i ||| to j)) (be i ||| be j) N) (to i ||| to j) (al i ||| al j) N) od N))), (qph, .inl (cA, 14, .inl (arP N (lkU (lkU be ((al i ||| al j) ||| (to i ||| to j)) (be i ||| be j) N) (to i ||| to j) (al i ||| al j) N) ph N)))] := by
  refine WR_of (cc := cX2_join) (maxL := 7) (ret := none) (by decide) rfl (Nat.le_of_ble_eq_true rfl) ?_
  intro p e s m below meth c ls hx hb hml hr hown hts hlk hin2 hH hK hl
  have hown : s.vm.findClass RX2 = some m.cls := hown
  have hl : lv_has ls 7 [(0, .ref qs), (1, .int (nI i)), (2, .int (nI j))] := hl
  have hinX2 : ∀ w ∈ wsX20, w ∈ wsX2_join := by decide +kernel
  have hD := hD0.self (sz := H0.size)
  obtain ⟨A, hAe⟩ : ∃ A, A = va_A [(qs, .inr (2, [.int (nI N), .ref qal, .ref qbe, .ref qto, .ref qod, .ref qph])), (qal, .inl (cA, 14, .inl al)), (qbe, .inl (cA, 14, .inl be)), (qto, .inl (cA, 14, .inl to)), (qod, .inl (cA, 14, .inl od)), (qph, .inl (cA, 14, .inl ph))] H0.size := ⟨_, rfl⟩
  rw [← hAe] at hD ⊢
  have hA : ∀ q : Nat, H0.size ≤ q → A q := fun q h => by rw [hAe]; exact Or.inr h
  have hS : va_S A H0 H0 [] := va_S.rf
  refine lv_aload_n hx hb dX2_join_0 rfl (lv_at hl 0 rfl) ?_
  refine va_get (D := D) (ci := 2) (v := .ref qal) (C := RX2) (T := TX2) (N := 6) hx hb hts hinX2 hown hK.1 hP 0 rfl rfl 1 (by decide) (hts (.fieldLink RX2 9 "CairnShells$Strata" "alikes" "[I") (by decide +kernel)) (fun _ h9 => h9) rfl dX2_join_1 ?_
  refine lv_iload_n hx hb dX2_join_4 rfl (lv_at hl 1 rfl) ?_
  refine my_iald (D := D) (j := i) hx hb hK hP 1 rfl (by omega) (by decide) dX2_join_5 ?_
  refine lv_aload_n hx hb dX2_join_6 rfl (lv_at hl 0 rfl) ?_
  refine va_get (D := D) (ci := 2) (v := .ref qal) (C := RX2) (T := TX2) (N := 6) hx hb hts hinX2 hown hK.1 hP 0 rfl rfl 1 (by decide) (hts (.fieldLink RX2 9 "CairnShells$Strata" "alikes" "[I") (by decide +kernel)) (fun _ h9 => h9) rfl dX2_join_7 ?_
  refine lv_iload_n hx hb dX2_join_10 rfl (lv_at hl 2 rfl) ?_
  refine my_iald (D := D) (j := j) hx hb hK hP 1 rfl (by omega) (by decide) dX2_join_11 ?_
  refine lv_ior hx hb dX2_join_12 ?_
  refine lv_istore_n (lv' := [(3, .int ((al i) ||| (al j))), (0, .ref qs), (1, .int (nI i)), (2, .int (nI j))]) hx hb dX2_join_13 rfl hl (by decide) rfl (fun ls hl => ?_)
  refine lv_aload_n hx hb dX2_join_14 rfl (lv_at hl 1 rfl) ?_
  refine va_get (D := D) (ci := 2) (v := .ref qbe) (C := RX2) (T := TX2) (N := 6) hx hb hts hinX2 hown hK.1 hP 0 rfl rfl 2 (by decide) (hts (.fieldLink RX2 15 "CairnShells$Strata" "belows" "[I") (by decide +kernel)) (fun _ h9 => h9) rfl dX2_join_15 ?_
  refine lv_iload_n hx hb dX2_join_18 rfl (lv_at hl 2 rfl) ?_
  refine my_iald (D := D) (j := i) hx hb hK hP 2 rfl (by omega) (by decide) dX2_join_19 ?_
  refine lv_aload_n hx hb dX2_join_20 rfl (lv_at hl 1 rfl) ?_
  refine va_get (D := D) (ci := 2) (v := .ref qbe) (C := RX2) (T := TX2) (N := 6) hx hb hts hinX2 hown hK.1 hP 0 rfl rfl 2 (by decide) (hts (.fieldLink RX2 15 "CairnShells$Strata" "belows" "[I") (by decide +kernel)) (fun _ h9 => h9) rfl dX2_join_21 ?_
  refine lv_iload_n hx hb dX2_join_24 rfl (lv_at hl 3 rfl) ?_
  refine my_iald (D := D) (j := j) hx hb hK hP 2 rfl (by omega) (by decide) dX2_join_25 ?_
  refine lv_ior hx hb dX2_join_26 ?_
  refine lv_istore (lv' := [(4, .int ((be i) ||| (be j))), (3, .int ((al i) ||| (al j))), (0, .ref qs), (1, .int (nI i)), (2, .int (nI j))]) hx hb dX2_join_27 hl (by decide) rfl (fun ls hl => ?_)
  refine lv_aload_n hx hb dX2_join_29 rfl (lv_at hl 2 rfl) ?_
  refine va_get (D := D) (ci := 2) (v := .ref qto) (C := RX2) (T := TX2) (N := 6) hx hb hts hinX2 hown hK.1 hP 0 rfl rfl 3 (by decide) (hts (.fieldLink RX2 18 "CairnShells$Strata" "tops" "[I") (by decide +kernel)) (fun _ h9 => h9) rfl dX2_join_30 ?_
  refine lv_iload_n hx hb dX2_join_33 rfl (lv_at hl 3 rfl) ?_
  refine my_iald (D := D) (j := i) hx hb hK hP 3 rfl (by omega) (by decide) dX2_join_34 ?_
  refine lv_aload_n hx hb dX2_join_35 rfl (lv_at hl 2 rfl) ?_
  refine va_get (D := D) (ci := 2) (v := .ref qto) (C := RX2) (T := TX2) (N := 6) hx hb hts hinX2 hown hK.1 hP 0 rfl rfl 3 (by decide) (hts (.fieldLink RX2 18 "CairnShells$Strata" "tops" "[I") (by decide +kernel)) (fun _ h9 => h9) rfl dX2_join_36 ?_
  refine lv_iload_n hx hb dX2_join_39 rfl (lv_at hl 4 rfl) ?_
  refine my_iald (D := D) (j := j) hx hb hK hP 3 rfl (by omega) (by decide) dX2_join_40 ?_
  refine lv_ior hx hb dX2_join_41 ?_
  refine lv_istore (lv' := [(5, .int ((to i) ||| (to j))), (4, .int ((be i) ||| (be j))), (3, .int ((al i) ||| (al j))), (0, .ref qs), (1, .int (nI i)), (2, .int (nI j))]) hx hb dX2_join_42 hl (by decide) rfl (fun ls hl => ?_)
  refine lv_iconst (v := 0) hx hb dX2_join_44 (by decide) ?_
  refine lv_istore (lv' := [(6, .int 0), (5, .int ((to i) ||| (to j))), (4, .int ((be i) ||| (be j))), (3, .int ((al i) ||| (al j))), (0, .ref qs), (1, .int (nI i)), (2, .int (nI j))]) hx hb dX2_join_45 hl (by decide) rfl (fun ls hl => ?_)
  suffices loop : ∀ (n k : Nat) (f1 : Nat → Int32), k ≤ N → N < k + n → f1 = stU al (al i ||| al j) k → ∀ (H : Heap) (locs : List Loc), va_P D vwCl [(qs, .inr (2, [.int (nI N), .ref qal, .ref qbe, .ref qto, .ref qod, .ref qph])), (qal, .inl (cA, 14, .inl f1)), (qbe, .inl (cA, 14, .inl be)), (qto, .inl (cA, 14, .inl to)), (qod, .inl (cA, 14, .inl od)), (qph, .inl (cA, 14, .inl ph))] H → va_D A [(qs, .inr (2, [.int (nI N), .ref qal, .ref qbe, .ref qto, .ref qod, .ref qph])), (qal, .inl (cA, 14, .inl f1)), (qbe, .inl (cA, 14, .inl be)), (qto, .inl (cA, 14, .inl to)), (qod, .inl (cA, 14, .inl od)), (qph, .inl (cA, 14, .inl ph))] → va_S A H0 H locs → ∀ ls, lv_has ls 7 [(6, .int (nI k)), (5, .int ((to i) ||| (to j))), (4, .int ((be i) ||| (be j))), (3, .int ((al i) ||| (al j))), (0, .ref qs), (1, .int (nI i)), (2, .int (nI j))] → W p l e { frames := 3, cells := 0, slots := 0, locals := 67 } s m ([.ref qs, .int (nI i), .int (nI j)] : List Value).toArray below meth c H locs (0) (0) (MQ below (wrQ none D [(qs, .inr (2, [.int (nI N), .ref qal, .ref qbe, .ref qto, .ref qod, .ref qph])), (qal, .inl (cA, 14, .inl al)), (qbe, .inl (cA, 14, .inl be)), (qto, .inl (cA, 14, .inl to)), (qod, .inl (cA, 14, .inl od)), (qph, .inl (cA, 14, .inl ph))] [(qs, .inr (2, [.int (nI N), .ref qal, .ref qbe, .ref qto, .ref qod, .ref qph])), (qal, .inl (cA, 14, .inl (stU al (al i ||| al j) N))), (qbe, .inl (cA, 14, .inl (lkU (lkU be ((al i ||| al j) ||| (to i ||| to j)) (be i ||| be j) N) (to i ||| to j) (al i ||| al j) N))), (qto, .inl (cA, 14, .inl (lkU (lkU to (be i ||| be j) ((al i ||| al j) ||| (to i ||| to j)) N) (al i ||| al j) (to i ||| to j) N))), (qod, .inl (cA, 14, .inl (arO N (lkU (lkU be ((al i ||| al j) ||| (to i ||| to j)) (be i ||| be j) N) (to i ||| to j) (al i ||| al j) N) od N))), (qph, .inl (cA, 14, .inl (arP N (lkU (lkU be ((al i ||| al j) ||| (to i ||| to j)) (be i ||| be j) N) (to i ||| to j) (al i ||| al j) N) ph N)))] H0) ([.ref qs, .int (nI i), .int (nI j)] : List Value).toArray s 0 0 A) (F0 m 47 ls []) from loop (N + 1) 0 al (by omega) (by omega) (by first | rfl | (simp [stU_0]; done) | (simp [stU_0]; done)) _ _ hP hD hS _ (lv_sub hl [0, 1, 2, 3, 4, 5, 6] rfl)
  intro n
  induction n with
  | zero => intro k f1 hk1 hk2; exact absurd hk2 (by omega)
  | succ n ih47 =>
    intro k f1 hk47 hn47 ef1 H locs hP hD hS ls hl
    refine lv_iload hx hb dX2_join_47 (lv_at hl 0 rfl) ?_
    refine lv_aload_n hx hb dX2_join_49 rfl (lv_at hl 4 rfl) ?_
    refine va_get (D := D) (ci := 2) (v := .int (nI N)) (C := RX2) (T := TX2) (N := 6) hx hb hts hinX2 hown hK.1 hP 0 rfl rfl 0 (by decide) (hts (.fieldLink RX2 27 "CairnShells$Strata" "layers" "I") (by decide +kernel)) (fun _ h9 => h9) rfl dX2_join_50 ?_
    refine my_geN (x := k) (y := N) (tgt := 79) hx hb dX2_join_53 (by decide) (by omega) (by omega) (fun h1 => ?_) (fun h1 => ?_)
    · obtain rfl : N = k := by omega
      subst ef1
      refine lv_aload_n hx hb dX2_join_79 rfl (lv_at hl 4 rfl) ?_
      refine lv_iload_n hx hb dX2_join_80 rfl (lv_at hl 3 rfl) ?_
      refine lv_iload hx hb dX2_join_81 (lv_at hl 1 rfl) ?_
      refine lv_ior hx hb dX2_join_83 ?_
      refine lv_iload hx hb dX2_join_84 (lv_at hl 2 rfl) ?_
      refine WR_go (ws' := [(qs, .inr (2, [.int (nI N), .ref qal, .ref qbe, .ref qto, .ref qod, .ref qph])), (qal, .inl (cA, 14, .inl (stU al (al i ||| al j) N))), (qbe, .inl (cA, 14, .inl (lkU be (((al i) ||| (al j)) ||| ((to i) ||| (to j))) ((be i) ||| (be j)) N))), (qto, .inl (cA, 14, .inl (lkU to ((be i) ||| (be j)) (((al i) ||| (al j)) ||| ((to i) ||| (to j))) N))), (qod, .inl (cA, 14, .inl od)), (qph, .inl (cA, 14, .inl ph))]) (va_runV (As := [.int (((al i) ||| (al j)) ||| ((to i) ||| (to j))), .int ((be i) ||| (be j))]) (rest := []) ⟨hx, hb, hml, hown, hts⟩ (c_X2_link l (D := D) (cA := cA) (H0 := H) (x := ((al i) ||| (al j)) ||| ((to i) ||| (to j))) (y := (be i) ||| (be j)) (hN := by omega) (hP := hP.sub (ws' := [(qs, .inr (2, [.int (nI N), .ref qal, .ref qbe, .ref qto, .ref qod, .ref qph])), (qbe, .inl (cA, 14, .inl be)), (qto, .inl (cA, 14, .inl to))]) [0, 2, 3] rfl) (hD0 := (hD.sub (ws' := [(qs, .inr (2, [.int (nI N), .ref qal, .ref qbe, .ref qto, .ref qod, .ref qph])), (qbe, .inl (cA, 14, .inl be)), (qto, .inl (cA, 14, .inl to))]) [0, 2, 3] (by decide) rfl).weaken (fun _ _ _ _ => trivial))) (cwV 2 hts gX2_join_X2_link rfl rfl rfl (by decide +kernel) ⟨Nat.le_of_ble_eq_true rfl, Nat.le_of_ble_eq_true rfl⟩) (cP_V hK (va_recv hK.1 hP (ci := 2) (q0 := 0) rfl rfl)) rfl rfl hl.1 rfl (lv_room (Nat.le_of_ble_eq_true rfl)) dX2_join_86 ⟨by omega, by omega⟩) hP hD hS hA [0, 2, 3] [1, 4, 5] rfl (by decide) (by decide) [3, 0, 4, 5, 1, 2] rfl (fun H locs hP hS hz => ?_)
      have hD : va_D A [(qs, .inr (2, [.int (nI N), .ref qal, .ref qbe, .ref qto, .ref qod, .ref qph])), (qal, .inl (cA, 14, .inl (stU al (al i ||| al j) N))), (qbe, .inl (cA, 14, .inl (lkU be (((al i) ||| (al j)) ||| ((to i) ||| (to j))) ((be i) ||| (be j)) N))), (qto, .inl (cA, 14, .inl (lkU to ((be i) ||| (be j)) (((al i) ||| (al j)) ||| ((to i) ||| (to j))) N))), (qod, .inl (cA, 14, .inl od)), (qph, .inl (cA, 14, .inl ph))] := hD.adr rfl
      refine lv_aload_n hx hb dX2_join_89 rfl (lv_at hl 4 rfl) ?_
      refine lv_iload hx hb dX2_join_90 (lv_at hl 1 rfl) ?_
      refine lv_iload_n hx hb dX2_join_92 rfl (lv_at hl 3 rfl) ?_
      refine WR_go (ws' := [(qs, .inr (2, [.int (nI N), .ref qal, .ref qbe, .ref qto, .ref qod, .ref qph])), (qal, .inl (cA, 14, .inl (stU al (al i ||| al j) N))), (qbe, .inl (cA, 14, .inl (lkU (lkU be (((al i) ||| (al j)) ||| ((to i) ||| (to j))) ((be i) ||| (be j)) N) ((to i) ||| (to j)) ((al i) ||| (al j)) N))), (qto, .inl (cA, 14, .inl (lkU (lkU to ((be i) ||| (be j)) (((al i) ||| (al j)) ||| ((to i) ||| (to j))) N) ((al i) ||| (al j)) ((to i) ||| (to j)) N))), (qod, .inl (cA, 14, .inl od)), (qph, .inl (cA, 14, .inl ph))]) (va_runV (As := [.int ((to i) ||| (to j)), .int ((al i) ||| (al j))]) (rest := []) ⟨hx, hb, hml, hown, hts⟩ (c_X2_link l (D := D) (cA := cA) (H0 := H) (x := (to i) ||| (to j)) (y := (al i) ||| (al j)) (hN := by omega) (hP := hP.sub (ws' := [(qs, .inr (2, [.int (nI N), .ref qal, .ref qbe, .ref qto, .ref qod, .ref qph])), (qbe, .inl (cA, 14, .inl (lkU be (((al i) ||| (al j)) ||| ((to i) ||| (to j))) ((be i) ||| (be j)) N))), (qto, .inl (cA, 14, .inl (lkU to ((be i) ||| (be j)) (((al i) ||| (al j)) ||| ((to i) ||| (to j))) N)))]) [0, 2, 3] rfl) (hD0 := (hD.sub (ws' := [(qs, .inr (2, [.int (nI N), .ref qal, .ref qbe, .ref qto, .ref qod, .ref qph])), (qbe, .inl (cA, 14, .inl (lkU be (((al i) ||| (al j)) ||| ((to i) ||| (to j))) ((be i) ||| (be j)) N))), (qto, .inl (cA, 14, .inl (lkU to ((be i) ||| (be j)) (((al i) ||| (al j)) ||| ((to i) ||| (to j))) N)))]) [0, 2, 3] (by decide) rfl).weaken (fun _ _ _ _ => trivial))) (cwV 2 hts gX2_join_X2_link rfl rfl rfl (by decide +kernel) ⟨Nat.le_of_ble_eq_true rfl, Nat.le_of_ble_eq_true rfl⟩) (cP_V hK (va_recv hK.1 hP (ci := 2) (q0 := 0) rfl rfl)) rfl rfl hl.1 rfl (lv_room (Nat.le_of_ble_eq_true rfl)) dX2_join_93 ⟨by omega, by omega⟩) hP hD hS hA [0, 2, 3] [1, 4, 5] rfl (by decide) (by decide) [3, 0, 4, 5, 1, 2] rfl (fun H locs hP hS hz => ?_)
      have hD : va_D A [(qs, .inr (2, [.int (nI N), .ref qal, .ref qbe, .ref qto, .ref qod, .ref qph])), (qal, .inl (cA, 14, .inl (stU al (al i ||| al j) N))), (qbe, .inl (cA, 14, .inl (lkU (lkU be (((al i) ||| (al j)) ||| ((to i) ||| (to j))) ((be i) ||| (be j)) N) ((to i) ||| (to j)) ((al i) ||| (al j)) N))), (qto, .inl (cA, 14, .inl (lkU (lkU to ((be i) ||| (be j)) (((al i) ||| (al j)) ||| ((to i) ||| (to j))) N) ((al i) ||| (al j)) ((to i) ||| (to j)) N))), (qod, .inl (cA, 14, .inl od)), (qph, .inl (cA, 14, .inl ph))] := hD.adr rfl
      refine lv_aload_n hx hb dX2_join_96 rfl (lv_at hl 4 rfl) ?_
      refine WR_go (ws' := [(qs, .inr (2, [.int (nI N), .ref qal, .ref qbe, .ref qto, .ref qod, .ref qph])), (qal, .inl (cA, 14, .inl (stU al (al i ||| al j) N))), (qbe, .inl (cA, 14, .inl (lkU (lkU be (((al i) ||| (al j)) ||| ((to i) ||| (to j))) ((be i) ||| (be j)) N) ((to i) ||| (to j)) ((al i) ||| (al j)) N))), (qto, .inl (cA, 14, .inl (lkU (lkU to ((be i) ||| (be j)) (((al i) ||| (al j)) ||| ((to i) ||| (to j))) N) ((al i) ||| (al j)) ((to i) ||| (to j)) N))), (qod, .inl (cA, 14, .inl (arO N (lkU (lkU be (((al i) ||| (al j)) ||| ((to i) ||| (to j))) ((be i) ||| (be j)) N) ((to i) ||| (to j)) ((al i) ||| (al j)) N) od N))), (qph, .inl (cA, 14, .inl (arP N (lkU (lkU be (((al i) ||| (al j)) ||| ((to i) ||| (to j))) ((be i) ||| (be j)) N) ((to i) ||| (to j)) ((al i) ||| (al j)) N) ph N)))]) (va_runV (As := []) (rest := []) ⟨hx, hb, hml, hown, hts⟩ (c_X2_arrange l (D := D) (cA := cA) (H0 := H) (hN1 := by omega) (hN := by omega) (hP := hP.sub (ws' := [(qs, .inr (2, [.int (nI N), .ref qal, .ref qbe, .ref qto, .ref qod, .ref qph])), (qbe, .inl (cA, 14, .inl (lkU (lkU be (((al i) ||| (al j)) ||| ((to i) ||| (to j))) ((be i) ||| (be j)) N) ((to i) ||| (to j)) ((al i) ||| (al j)) N))), (qod, .inl (cA, 14, .inl od)), (qph, .inl (cA, 14, .inl ph))]) [0, 2, 4, 5] rfl) (hD0 := (hD.sub (ws' := [(qs, .inr (2, [.int (nI N), .ref qal, .ref qbe, .ref qto, .ref qod, .ref qph])), (qbe, .inl (cA, 14, .inl (lkU (lkU be (((al i) ||| (al j)) ||| ((to i) ||| (to j))) ((be i) ||| (be j)) N) ((to i) ||| (to j)) ((al i) ||| (al j)) N))), (qod, .inl (cA, 14, .inl od)), (qph, .inl (cA, 14, .inl ph))]) [0, 2, 4, 5] (by decide) rfl).weaken (fun _ _ _ _ => trivial))) (cwV 0 hts gX2_join_X2_arrange rfl rfl rfl (by decide +kernel) ⟨Nat.le_of_ble_eq_true rfl, Nat.le_of_ble_eq_true rfl⟩) (cP_V hK (va_recv hK.1 hP (ci := 2) (q0 := 0) rfl rfl)) rfl rfl hl.1 rfl (lv_room (Nat.le_of_ble_eq_true rfl)) dX2_join_97 ⟨by omega, by omega⟩) hP hD hS hA [0, 2, 4, 5] [1, 3] rfl (by decide) (by decide) [2, 0, 3, 1, 4, 5] rfl (fun H locs hP hS hz => ?_)
      have hD : va_D A [(qs, .inr (2, [.int (nI N), .ref qal, .ref qbe, .ref qto, .ref qod, .ref qph])), (qal, .inl (cA, 14, .inl (stU al (al i ||| al j) N))), (qbe, .inl (cA, 14, .inl (lkU (lkU be (((al i) ||| (al j)) ||| ((to i) ||| (to j))) ((be i) ||| (be j)) N) ((to i) ||| (to j)) ((al i) ||| (al j)) N))), (qto, .inl (cA, 14, .inl (lkU (lkU to ((be i) ||| (be j)) (((al i) ||| (al j)) ||| ((to i) ||| (to j))) N) ((al i) ||| (al j)) ((to i) ||| (to j)) N))), (qod, .inl (cA, 14, .inl (arO N (lkU (lkU be (((al i) ||| (al j)) ||| ((to i) ||| (to j))) ((be i) ||| (be j)) N) ((to i) ||| (to j)) ((al i) ||| (al j)) N) od N))), (qph, .inl (cA, 14, .inl (arP N (lkU (lkU be (((al i) ||| (al j)) ||| ((to i) ||| (to j))) ((be i) ||| (be j)) N) ((to i) ||| (to j)) ((al i) ||| (al j)) N) ph N)))] := hD.adr rfl
      exact WR_vret hAe hx hb hr hlk hH dX2_join_100 (by omega) (by omega) (hP.sub [0, 1, 2, 3, 4, 5] rfl) hS
    · refine lv_iload_n hx hb dX2_join_56 rfl (lv_at hl 3 rfl) ?_
      refine lv_iload hx hb dX2_join_57 (lv_at hl 0 rfl) ?_
      refine RO_go (va_runSN (As := [.int ((al i) ||| (al j)), .int (nI k)]) (rest := []) ⟨hx, hb, hml, hown, hts⟩ (c_X3_has l (D := D) (cA := cA) (H0 := H) (x := (al i) ||| (al j)) (j := k) (hj := by omega)) ⟨va_cnB 2 hts gX2_join_X3_has_n31 rfl rfl rfl hK.2.2.2.1 (hts (.initialized RX3) (by decide +kernel)) (by decide +kernel) ⟨Nat.le_of_ble_eq_true rfl, Nat.le_of_ble_eq_true rfl⟩, (hts (.static yX3_has) (by decide +kernel)), trivial⟩ (cP_S hK) rfl rfl hl.1 rfl (lv_room (Nat.le_of_ble_eq_true rfl)) dX2_join_59 ⟨by omega, by omega⟩) ?_
      refine my_ifeq_b (tgt := 73) hx hb dX2_join_62 (by decide) (fun h2 => ?_) (fun h2 => ?_)
      · refine lv_iinc (v := nI (k + 1)) (x := nI k) (lv' := [(6, .int (nI (k + 1))), (5, .int ((to i) ||| (to j))), (4, .int ((be i) ||| (be j))), (3, .int ((al i) ||| (al j))), (0, .ref qs), (1, .int (nI i)), (2, .int (nI j))]) hx hb dX2_join_73 hl (k := 0) rfl (nI_1 k) (by decide) rfl (fun ls hl => ?_)
        refine lv_goto (tgt := 47) hx hb dX2_join_76 (by decide) ?_
        exact ih47 (k + 1) f1 (by omega) (by omega) (by subst ef1; first | exact stU_t h2 | exact stU_f h2) _ _ hP hD hS _ (lv_sub hl [0, 1, 2, 3, 4, 5, 6] rfl)
      · refine lv_aload_n hx hb dX2_join_65 rfl (lv_at hl 4 rfl) ?_
        refine va_get (D := D) (ci := 2) (v := .ref qal) (C := RX2) (T := TX2) (N := 6) hx hb hts hinX2 hown hK.1 hP 0 rfl rfl 1 (by decide) (hts (.fieldLink RX2 9 "CairnShells$Strata" "alikes" "[I") (by decide +kernel)) (fun _ h9 => h9) rfl dX2_join_66 ?_
        refine lv_iload hx hb dX2_join_69 (lv_at hl 0 rfl) ?_
        refine lv_iload_n hx hb dX2_join_71 rfl (lv_at hl 3 rfl) ?_
        refine my_iast (D := D) (j := k) hx hb hK hP hD hS 1 rfl (by omega) (by decide) dX2_join_72 (fun H locs hP hD hS => ?_)
        have hP : va_P D vwCl [(qs, .inr (2, [.int (nI N), .ref qal, .ref qbe, .ref qto, .ref qod, .ref qph])), (qal, .inl (cA, 14, .inl (upd f1 k ((al i) ||| (al j))))), (qbe, .inl (cA, 14, .inl be)), (qto, .inl (cA, 14, .inl to)), (qod, .inl (cA, 14, .inl od)), (qph, .inl (cA, 14, .inl ph))] H := hP
        have hD : va_D A [(qs, .inr (2, [.int (nI N), .ref qal, .ref qbe, .ref qto, .ref qod, .ref qph])), (qal, .inl (cA, 14, .inl (upd f1 k ((al i) ||| (al j))))), (qbe, .inl (cA, 14, .inl be)), (qto, .inl (cA, 14, .inl to)), (qod, .inl (cA, 14, .inl od)), (qph, .inl (cA, 14, .inl ph))] := hD
        refine lv_iinc (v := nI (k + 1)) (x := nI k) (lv' := [(6, .int (nI (k + 1))), (5, .int ((to i) ||| (to j))), (4, .int ((be i) ||| (be j))), (3, .int ((al i) ||| (al j))), (0, .ref qs), (1, .int (nI i)), (2, .int (nI j))]) hx hb dX2_join_73 hl (k := 0) rfl (nI_1 k) (by decide) rfl (fun ls hl => ?_)
        refine lv_goto (tgt := 47) hx hb dX2_join_76 (by decide) ?_
        exact ih47 (k + 1) (upd f1 k ((al i) ||| (al j))) (by omega) (by omega) (by subst ef1; first | exact stU_t h2 | exact stU_f h2) _ _ hP hD hS _ (lv_sub hl [0, 1, 2, 3, 4, 5, 6] rfl)
