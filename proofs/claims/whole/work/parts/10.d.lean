set_option maxHeartbeats 4000000 in
set_option maxRecDepth 100000 in
theorem c_X4_fail (l : Launch) {D : va_G} {cA : ClassId} {H0 : Heap} {qy qya qyb qyc qyd qye N : Nat} {th : Int32} (v : Int32) (hP : va_P D vwCl [(qy, .inr (4, [.int th, .int (nI N), .ref qya, .ref qyb, .ref qyc, .ref qyd, .ref qye]))] H0) (hD0 : va_D (fun _ => True) [(qy, .inr (4, [.int th, .int (nI N), .ref qya, .ref qyb, .ref qyc, .ref qyd, .ref qye]))]) : WR l yX4_fail wsX4_fail 0 0 0 0 [.ref qy, .int v] D cA H0 (some (.int 0)) [(qy, .inr (4, [.int th, .int (nI N), .ref qya, .ref qyb, .ref qyc, .ref qyd, .ref qye]))] [(qy, .inr (4, [.int v, .int (nI N), .ref qya, .ref qyb, .ref qyc, .ref qyd, .ref qye]))] := by
  refine WR_of (cc := cX4_fail) (maxL := 2) (ret := (some .int)) (by decide) rfl (Nat.le_of_ble_eq_true rfl) ?_
  intro p e s m below meth c ls hx hb hml hr hown hts hlk hin2 hH hK hl
  have hown : s.vm.findClass RX4 = some m.cls := hown
  have hl : lv_has ls 2 [(0, .ref qy), (1, .int v)] := hl
  have hinX4 : ∀ w ∈ wsX40, w ∈ wsX4_fail := by decide +kernel
  have hD := hD0.self (sz := H0.size)
  obtain ⟨A, hAe⟩ : ∃ A, A = va_A [(qy, .inr (4, [.int th, .int (nI N), .ref qya, .ref qyb, .ref qyc, .ref qyd, .ref qye]))] H0.size := ⟨_, rfl⟩
  rw [← hAe] at hD ⊢
  have hA : ∀ q : Nat, H0.size ≤ q → A q := fun q h => by rw [hAe]; exact Or.inr h
  have hS : va_S A H0 H0 [] := va_S.rf
  refine lv_aload_n hx hb dX4_fail_0 rfl (lv_at hl 0 rfl) ?_
  refine lv_iload_n hx hb dX4_fail_1 rfl (lv_at hl 1 rfl) ?_
  refine va_put (D := D) (ci := 4) (v := .int v) (ty := .int) (C := RX4) (T := TX4) (N := 7) hx hb hts hinX4 tyX4 tyX4_ok nmX4 hown hK.1 hP hD hS 0 rfl rfl 0 (by decide) (hts (.fieldLink RX4 25 "CairnShellsModel" "thrown" "I") (by decide +kernel)) (fun _ h9 => h9) rfl (by decide +kernel) rfl rfl (Nat.le_of_ble_eq_true rfl) dX4_fail_2 (fun H locs hP hD hS => ?_)
  have hP : va_P D vwCl [(qy, .inr (4, [.int v, .int (nI N), .ref qya, .ref qyb, .ref qyc, .ref qyd, .ref qye]))] H := hP
  have hD : va_D A [(qy, .inr (4, [.int v, .int (nI N), .ref qya, .ref qyb, .ref qyc, .ref qyd, .ref qye]))] := hD
  refine lv_iconst (v := 0) hx hb dX4_fail_5 (by decide) ?_
  exact WR_zret hAe hx hb hr hlk hH dX4_fail_6 (by omega) (by omega) (hP.sub [0] rfl) hS (by rfl) rfl
set_option maxHeartbeats 4000000 in
set_option maxRecDepth 100000 in
theorem c_X4_phases (l : Launch) {D : va_G} {cA : ClassId} {H0 : Heap} {qy qya qyb qyc qyd qye N : Nat} {th : Int32} {be : Nat → Int32} (hN : N ≤ 14) (hP : va_P D vwCl [(qy, .inr (4, [.int th, .int (nI N), .ref qya, .ref qyb, .ref qyc, .ref qyd, .ref qye])), (qyb, .inl (cA, 14, .inl be))] H0) (hD0 : va_D (fun _ => True) [(qy, .inr (4, [.int th, .int (nI N), .ref qya, .ref qyb, .ref qyc, .ref qyd, .ref qye])), (qyb, .inl (cA, 14, .inl be))]) : RQ l yX4_phases wsX4_phases 1 21 1 14 [.ref qy] D cA H0 [(qy, .inr (4, [.int th, .int (nI N), .ref qya, .ref qyb, .ref qyc, .ref qyd, .ref qye])), (qyb, .inl (cA, 14, .inl be))] (fun v W1 => ∃ q : Nat, v = some (.ref q) ∧ W1 = [(qy, .inr (4, [.int th, .int (nI N), .ref qya, .ref qyb, .ref qyc, .ref qyd, .ref qye])), (qyb, .inl (cA, 14, .inl be)), (q, .inl (cA, 14, .inl (ph1 N be N)))]) := by
  refine RQ_of (cc := cX4_phases) (maxL := 5) (ret := (some (.array .int))) (by decide) rfl (Nat.le_of_ble_eq_true rfl) ?_
  intro p e s m below meth c ls hx hb hml hr hown hts hlk hin2 hH hK hl
  have hown : s.vm.findClass RX4 = some m.cls := hown
  have hl : lv_has ls 5 [(0, .ref qy)] := hl
  have hinX4 : ∀ w ∈ wsX40, w ∈ wsX4_phases := by decide +kernel
  have hD := hD0.self (sz := H0.size)
  obtain ⟨A, hAe⟩ : ∃ A, A = va_A [(qy, .inr (4, [.int th, .int (nI N), .ref qya, .ref qyb, .ref qyc, .ref qyd, .ref qye])), (qyb, .inl (cA, 14, .inl be))] H0.size := ⟨_, rfl⟩
  rw [← hAe] at hD ⊢
  have hA : ∀ q : Nat, H0.size ≤ q → A q := fun q h => by rw [hAe]; exact Or.inr h
  have hS : va_S A H0 H0 [] := va_S.rf
  refine lv_bipush (v := 14) hx hb dX4_phases_0 (by decide) ?_
  refine my_newa (D := D) (N' := 14) hx hb (hts (.arrayClass .int) (by decide +kernel)) hK hP hD hS hA (by decide) rfl (by decide) (by show _ ≤ 1; omega) (by show _ ≤ 14; omega) dX4_phases_2 (fun q1 H hP hD hS hq => ?_)
  have hP : va_P D vwCl [(qy, .inr (4, [.int th, .int (nI N), .ref qya, .ref qyb, .ref qyc, .ref qyd, .ref qye])), (qyb, .inl (cA, 14, .inl be)), (q1, .inl (cA, 14, .inl (fun _ => 0)))] H := hP
  have hD : va_D A [(qy, .inr (4, [.int th, .int (nI N), .ref qya, .ref qyb, .ref qyc, .ref qyd, .ref qye])), (qyb, .inl (cA, 14, .inl be)), (q1, .inl (cA, 14, .inl (fun _ => 0)))] := hD
  refine lv_astore_n (lv' := [(1, .ref q1), (0, .ref qy)]) hx hb dX4_phases_4 rfl hl (by decide) rfl (fun ls hl => ?_)
  refine lv_iconst (v := 0) hx hb dX4_phases_5 (by decide) ?_
  refine lv_istore_n (lv' := [(2, .int 0), (1, .ref q1), (0, .ref qy)]) hx hb dX4_phases_6 rfl hl (by decide) rfl (fun ls hl => ?_)
  suffices loop : ∀ (n t : Nat) (f1 : Nat → Int32), t ≤ N → N < t + n → f1 = ph1 N be t → ∀ (H : Heap) (locs : List Loc), va_P D vwCl [(qy, .inr (4, [.int th, .int (nI N), .ref qya, .ref qyb, .ref qyc, .ref qyd, .ref qye])), (qyb, .inl (cA, 14, .inl be)), (q1, .inl (cA, 14, .inl f1))] H → va_D A [(qy, .inr (4, [.int th, .int (nI N), .ref qya, .ref qyb, .ref qyc, .ref qyd, .ref qye])), (qyb, .inl (cA, 14, .inl be)), (q1, .inl (cA, 14, .inl f1))] → va_S A H0 H locs → ∀ ls, lv_has ls 5 [(2, .int (nI t)), (1, .ref q1), (0, .ref qy)] → W p l e { frames := 1, cells := 1, slots := 14, locals := 21 } s m ([.ref qy] : List Value).toArray below meth c H locs (0 + 1) (0 + 14) (MQ below (rlQ (fun v W1 => ∃ q : Nat, v = some (.ref q) ∧ W1 = [(qy, .inr (4, [.int th, .int (nI N), .ref qya, .ref qyb, .ref qyc, .ref qyd, .ref qye])), (qyb, .inl (cA, 14, .inl be)), (q, .inl (cA, 14, .inl (ph1 N be N)))]) D [(qy, .inr (4, [.int th, .int (nI N), .ref qya, .ref qyb, .ref qyc, .ref qyd, .ref qye])), (qyb, .inl (cA, 14, .inl be))] H0) ([.ref qy] : List Value).toArray s 1 14 A) (F0 m 7 ls []) from loop (N + 1) 0 (fun _ => 0) (by omega) (by omega) (by first | rfl | (simp [ph1]; done) | (simp [ph1]; done)) _ _ hP hD hS _ (lv_sub hl [0, 1, 2] rfl)
  intro n
  induction n with
  | zero => intro t f1 hk1 hk2; exact absurd hk2 (by omega)
  | succ n ih7 =>
    intro t f1 hk7 hn7 ef1 H locs hP hD hS ls hl
    refine lv_iload_n hx hb dX4_phases_7 rfl (lv_at hl 0 rfl) ?_
    refine lv_aload_n hx hb dX4_phases_8 rfl (lv_at hl 2 rfl) ?_
    refine va_get (D := D) (ci := 4) (v := .int (nI N)) (C := RX4) (T := TX4) (N := 7) hx hb hts hinX4 hown hK.1 hP 0 rfl rfl 1 (by decide) (hts (.fieldLink RX4 29 "CairnShellsModel" "layers" "I") (by decide +kernel)) (fun _ h9 => h9) rfl dX4_phases_9 ?_
    refine my_geN (x := t) (y := N) (tgt := 84) hx hb dX4_phases_12 (by decide) (by omega) (by omega) (fun h2 => ?_) (fun h2 => ?_)
    · obtain rfl : N = t := by omega
      subst ef1
      refine lv_aload_n hx hb dX4_phases_84 rfl (lv_at hl 1 rfl) ?_
      exact RQ_aret (W1 := [(qy, .inr (4, [.int th, .int (nI N), .ref qya, .ref qyb, .ref qyc, .ref qyd, .ref qye])), (qyb, .inl (cA, 14, .inl be)), (q1, .inl (cA, 14, .inl (ph1 N be N)))]) hAe hx hb hr hlk hH dX4_phases_85 (by omega) (by omega) ⟨_, rfl, rfl⟩ (hP.sub [0, 1, 2] rfl) (hD.sub [0, 1, 2] (by decide) rfl) hS
    · refine lv_iconst (v := 0) hx hb dX4_phases_15 (by decide) ?_
      refine lv_istore_n (lv' := [(3, .int 0), (2, .int (nI t)), (1, .ref q1), (0, .ref qy)]) hx hb dX4_phases_16 rfl hl (by decide) rfl (fun ls hl => ?_)
      suffices loop : ∀ (n r : Nat) (f2 : Nat → Int32), r ≤ N → N < r + n → f2 = ph2 N be (ph1 N be t) r → ∀ (H : Heap) (locs : List Loc), va_P D vwCl [(qy, .inr (4, [.int th, .int (nI N), .ref qya, .ref qyb, .ref qyc, .ref qyd, .ref qye])), (qyb, .inl (cA, 14, .inl be)), (q1, .inl (cA, 14, .inl f2))] H → va_D A [(qy, .inr (4, [.int th, .int (nI N), .ref qya, .ref qyb, .ref qyc, .ref qyd, .ref qye])), (qyb, .inl (cA, 14, .inl be)), (q1, .inl (cA, 14, .inl f2))] → va_S A H0 H locs → ∀ ls, lv_has ls 5 [(3, .int (nI r)), (2, .int (nI t)), (1, .ref q1), (0, .ref qy)] → W p l e { frames := 1, cells := 1, slots := 14, locals := 21 } s m ([.ref qy] : List Value).toArray below meth c H locs (0 + 1) (0 + 14) (MQ below (rlQ (fun v W1 => ∃ q : Nat, v = some (.ref q) ∧ W1 = [(qy, .inr (4, [.int th, .int (nI N), .ref qya, .ref qyb, .ref qyc, .ref qyd, .ref qye])), (qyb, .inl (cA, 14, .inl be)), (q, .inl (cA, 14, .inl (ph1 N be N)))]) D [(qy, .inr (4, [.int th, .int (nI N), .ref qya, .ref qyb, .ref qyc, .ref qyd, .ref qye])), (qyb, .inl (cA, 14, .inl be))] H0) ([.ref qy] : List Value).toArray s 1 14 A) (F0 m 17 ls []) from loop (N + 1) 0 f1 (by omega) (by omega) (by first | rfl | (simp [ph2]; done) | (simp [ph2, ef1]; done)) _ _ hP hD hS _ (lv_sub hl [0, 1, 2, 3] rfl)
      intro n
      induction n with
      | zero => intro r f2 hk1 hk2; exact absurd hk2 (by omega)
      | succ n ih17 =>
        intro r f2 hk17 hn17 ef2 H locs hP hD hS ls hl
        refine lv_iload_n hx hb dX4_phases_17 rfl (lv_at hl 0 rfl) ?_
        refine lv_aload_n hx hb dX4_phases_18 rfl (lv_at hl 3 rfl) ?_
        refine va_get (D := D) (ci := 4) (v := .int (nI N)) (C := RX4) (T := TX4) (N := 7) hx hb hts hinX4 hown hK.1 hP 0 rfl rfl 1 (by decide) (hts (.fieldLink RX4 29 "CairnShellsModel" "layers" "I") (by decide +kernel)) (fun _ h9 => h9) rfl dX4_phases_19 ?_
        refine my_geN (x := r) (y := N) (tgt := 78) hx hb dX4_phases_22 (by decide) (by omega) (by omega) (fun h3 => ?_) (fun h3 => ?_)
        · obtain rfl : N = r := by omega
          subst ef2
          refine lv_iinc (v := nI (t + 1)) (x := nI t) (lv' := [(2, .int (nI (t + 1))), (3, .int (nI N)), (1, .ref q1), (0, .ref qy)]) hx hb dX4_phases_78 hl (k := 1) rfl (nI_1 t) (by decide) rfl (fun ls hl => ?_)
          refine lv_goto (tgt := 7) hx hb dX4_phases_81 (by decide) ?_
          exact ih7 (t + 1) (ph2 N be (ph1 N be t) N) (by omega) (by omega) (by subst ef1; rfl) _ _ hP hD hS _ (lv_sub hl [0, 2, 3] rfl)
        · refine lv_iconst (v := 0) hx hb dX4_phases_25 (by decide) ?_
          refine lv_istore (lv' := [(4, .int 0), (3, .int (nI r)), (2, .int (nI t)), (1, .ref q1), (0, .ref qy)]) hx hb dX4_phases_26 hl (by decide) rfl (fun ls hl => ?_)
          suffices loop : ∀ (n k : Nat) (f3 : Nat → Int32), k ≤ N → N < k + n → f3 = ph3 be r (ph2 N be (ph1 N be t) r) k → ∀ (H : Heap) (locs : List Loc), va_P D vwCl [(qy, .inr (4, [.int th, .int (nI N), .ref qya, .ref qyb, .ref qyc, .ref qyd, .ref qye])), (qyb, .inl (cA, 14, .inl be)), (q1, .inl (cA, 14, .inl f3))] H → va_D A [(qy, .inr (4, [.int th, .int (nI N), .ref qya, .ref qyb, .ref qyc, .ref qyd, .ref qye])), (qyb, .inl (cA, 14, .inl be)), (q1, .inl (cA, 14, .inl f3))] → va_S A H0 H locs → ∀ ls, lv_has ls 5 [(4, .int (nI k)), (3, .int (nI r)), (2, .int (nI t)), (1, .ref q1), (0, .ref qy)] → W p l e { frames := 1, cells := 1, slots := 14, locals := 21 } s m ([.ref qy] : List Value).toArray below meth c H locs (0 + 1) (0 + 14) (MQ below (rlQ (fun v W1 => ∃ q : Nat, v = some (.ref q) ∧ W1 = [(qy, .inr (4, [.int th, .int (nI N), .ref qya, .ref qyb, .ref qyc, .ref qyd, .ref qye])), (qyb, .inl (cA, 14, .inl be)), (q, .inl (cA, 14, .inl (ph1 N be N)))]) D [(qy, .inr (4, [.int th, .int (nI N), .ref qya, .ref qyb, .ref qyc, .ref qyd, .ref qye])), (qyb, .inl (cA, 14, .inl be))] H0) ([.ref qy] : List Value).toArray s 1 14 A) (F0 m 28 ls []) from loop (N + 1) 0 f2 (by omega) (by omega) (by first | rfl | (simp [ph3]; done) | (simp [ph3, ef1, ef2]; done)) _ _ hP hD hS _ (lv_sub hl [0, 1, 2, 3, 4] rfl)
          intro n
          induction n with
          | zero => intro k f3 hk1 hk2; exact absurd hk2 (by omega)
          | succ n ih28 =>
            intro k f3 hk28 hn28 ef3 H locs hP hD hS ls hl
            refine lv_iload hx hb dX4_phases_28 (lv_at hl 0 rfl) ?_
            refine lv_aload_n hx hb dX4_phases_30 rfl (lv_at hl 4 rfl) ?_
            refine va_get (D := D) (ci := 4) (v := .int (nI N)) (C := RX4) (T := TX4) (N := 7) hx hb hts hinX4 hown hK.1 hP 0 rfl rfl 1 (by decide) (hts (.fieldLink RX4 29 "CairnShellsModel" "layers" "I") (by decide +kernel)) (fun _ h9 => h9) rfl dX4_phases_31 ?_
            refine my_geN (x := k) (y := N) (tgt := 72) hx hb dX4_phases_34 (by decide) (by omega) (by omega) (fun h4 => ?_) (fun h4 => ?_)
            · obtain rfl : N = k := by omega
              subst ef3
              refine lv_iinc (v := nI (r + 1)) (x := nI r) (lv' := [(3, .int (nI (r + 1))), (4, .int (nI N)), (2, .int (nI t)), (1, .ref q1), (0, .ref qy)]) hx hb dX4_phases_72 hl (k := 1) rfl (nI_1 r) (by decide) rfl (fun ls hl => ?_)
              refine lv_goto (tgt := 17) hx hb dX4_phases_75 (by decide) ?_
              exact ih17 (r + 1) (ph3 be r (ph2 N be (ph1 N be t) r) N) (by omega) (by omega) (by subst ef2; rfl) _ _ hP hD hS _ (lv_sub hl [0, 2, 3, 4] rfl)
            · refine lv_aload_n hx hb dX4_phases_37 rfl (lv_at hl 4 rfl) ?_
              refine va_get (D := D) (ci := 4) (v := .ref qyb) (C := RX4) (T := TX4) (N := 7) hx hb hts hinX4 hown hK.1 hP 0 rfl rfl 3 (by decide) (hts (.fieldLink RX4 13 "CairnShellsModel" "beneath" "[I") (by decide +kernel)) (fun _ h9 => h9) rfl dX4_phases_38 ?_
              refine lv_iload_n hx hb dX4_phases_41 rfl (lv_at hl 1 rfl) ?_
              refine my_iald (D := D) (j := r) hx hb hK hP 1 rfl (by omega) (by decide) dX4_phases_42 ?_
              refine lv_iload hx hb dX4_phases_43 (lv_at hl 0 rfl) ?_
              refine RO_go (va_runS (As := [.int (be r), .int (nI k)]) (rest := []) ⟨hx, hb, hml, hown, hts⟩ (c_X4_has l (D := D) (cA := cA) (H0 := H) (x := be r) (j := k) (hj := by omega)) (va_cwS 2 hts gX4_phases_X4_has rfl rfl rfl (by decide +kernel) ⟨Nat.le_of_ble_eq_true rfl, Nat.le_of_ble_eq_true rfl⟩) (cP_S hK) rfl rfl hl.1 rfl (lv_room (Nat.le_of_ble_eq_true rfl)) dX4_phases_45 ⟨by show _ ≤ 1; omega, by show _ ≤ 14; omega⟩) ?_
              refine my_ifeq_b (tgt := 66) hx hb dX4_phases_48 (by decide) (fun h5 => ?_) (fun h5 => ?_)
              · refine lv_iinc (v := nI (k + 1)) (x := nI k) (lv' := [(4, .int (nI (k + 1))), (3, .int (nI r)), (2, .int (nI t)), (1, .ref q1), (0, .ref qy)]) hx hb dX4_phases_66 hl (k := 0) rfl (nI_1 k) (by decide) rfl (fun ls hl => ?_)
                refine lv_goto (tgt := 28) hx hb dX4_phases_69 (by decide) ?_
                exact ih28 (k + 1) f3 (by omega) (by omega) (by subst ef3; first | rfl | simp [ph3, imax, h2, h3, h4, h5]) _ _ hP hD hS _ (lv_sub hl [0, 1, 2, 3, 4] rfl)
              · refine lv_aload_n hx hb dX4_phases_51 rfl (lv_at hl 3 rfl) ?_
                refine lv_iload_n hx hb dX4_phases_52 rfl (lv_at hl 1 rfl) ?_
                refine lv_aload_n hx hb dX4_phases_53 rfl (lv_at hl 3 rfl) ?_
                refine lv_iload_n hx hb dX4_phases_54 rfl (lv_at hl 1 rfl) ?_
                refine my_iald (D := D) (j := r) hx hb hK hP 2 rfl (by omega) (by decide) dX4_phases_55 ?_
                refine lv_aload_n hx hb dX4_phases_56 rfl (lv_at hl 3 rfl) ?_
                refine lv_iload hx hb dX4_phases_57 (lv_at hl 0 rfl) ?_
                refine my_iald (D := D) (j := k) hx hb hK hP 2 rfl (by omega) (by decide) dX4_phases_59 ?_
                refine lv_iconst (v := 1) hx hb dX4_phases_60 (by decide) ?_
                refine lv_iadd hx hb dX4_phases_61 ?_
                refine va_mmax hx hb (hml.trans hl.1.symm) hown (hts (.methodLink RX4 67 Lib.Math.max.name) (by decide +kernel)) (hts (.static Lib.Math.max.name) (by decide +kernel)) (hts (.initialized "java/lang/Math") (by decide +kernel)) (hts (.code Lib.Math.max.name Lib.Math.max.code 2 (some .int)) (by decide +kernel)) (Nat.le_of_ble_eq_true rfl) (Nat.le_of_ble_eq_true rfl) (by show _ ≤ 1; omega) (by show _ ≤ 14; omega) dX4_phases_62 ?_
                refine my_iast (D := D) (j := r) hx hb hK hP hD hS 2 rfl (by omega) (by decide) dX4_phases_65 (fun H locs hP hD hS => ?_)
                have hP : va_P D vwCl [(qy, .inr (4, [.int th, .int (nI N), .ref qya, .ref qyb, .ref qyc, .ref qyd, .ref qye])), (qyb, .inl (cA, 14, .inl be)), (q1, .inl (cA, 14, .inl (upd f3 r (imax (f3 r) ((f3 k) + 1)))))] H := hP
                have hD : va_D A [(qy, .inr (4, [.int th, .int (nI N), .ref qya, .ref qyb, .ref qyc, .ref qyd, .ref qye])), (qyb, .inl (cA, 14, .inl be)), (q1, .inl (cA, 14, .inl (upd f3 r (imax (f3 r) ((f3 k) + 1)))))] := hD
                refine lv_iinc (v := nI (k + 1)) (x := nI k) (lv' := [(4, .int (nI (k + 1))), (3, .int (nI r)), (2, .int (nI t)), (1, .ref q1), (0, .ref qy)]) hx hb dX4_phases_66 hl (k := 0) rfl (nI_1 k) (by decide) rfl (fun ls hl => ?_)
                refine lv_goto (tgt := 28) hx hb dX4_phases_69 (by decide) ?_
                exact ih28 (k + 1) (upd f3 r (imax (f3 r) ((f3 k) + 1))) (by omega) (by omega) (by subst ef3; first | rfl | simp [ph3, imax, h2, h3, h4, h5]) _ _ hP hD hS _ (lv_sub hl [0, 1, 2, 3, 4] rfl)
set_option maxHeartbeats 4000000 in
set_option maxRecDepth 100000 in
theorem c_X4_season (l : Launch) {D : va_G} {cA : ClassId} {H0 : Heap} {qy qya qyb qyc qyd qye N : Nat} {th : Int32} {al mn : Nat → Int32} (j : Nat) (hj : j < 14) (hN : N ≤ 14) (hP : va_P D vwCl [(qy, .inr (4, [.int th, .int (nI N), .ref qya, .ref qyb, .ref qyc, .ref qyd, .ref qye])), (qya, .inl (cA, 14, .inl al)), (qyc, .inl (cA, 56, .inl mn))] H0) (hD0 : va_D (fun _ => True) [(qy, .inr (4, [.int th, .int (nI N), .ref qya, .ref qyb, .ref qyc, .ref qyd, .ref qye])), (qya, .inl (cA, 14, .inl al)), (qyc, .inl (cA, 56, .inl mn))]) : WR l yX4_season wsX4_season 2 45 1 4 [.ref qy, .int (nI j)] D cA H0 (some (.int (mssn (mA mn (al j) 0 N) (mA mn (al j) 1 N) (mA mn (al j) 2 N) (mA mn (al j) 3 N)))) [(qy, .inr (4, [.int th, .int (nI N), .ref qya, .ref qyb, .ref qyc, .ref qyd, .ref qye])), (qya, .inl (cA, 14, .inl al)), (qyc, .inl (cA, 56, .inl mn))] [(qy, .inr (4, [.int th, .int (nI N), .ref qya, .ref qyb, .ref qyc, .ref qyd, .ref qye])), (qya, .inl (cA, 14, .inl al)), (qyc, .inl (cA, 56, .inl mn))] := by
  refine WR_of (cc := cX4_season) (maxL := 9) (ret := (some .int)) (by decide) rfl (Nat.le_of_ble_eq_true rfl) ?_
  intro p e s m below meth c ls hx hb hml hr hown hts hlk hin2 hH hK hl
  have hown : s.vm.findClass RX4 = some m.cls := hown
  have hl : lv_has ls 9 [(0, .ref qy), (1, .int (nI j))] := hl
  have hinX4 : ∀ w ∈ wsX40, w ∈ wsX4_season := by decide +kernel
  have hD := hD0.self (sz := H0.size)
  obtain ⟨A, hAe⟩ : ∃ A, A = va_A [(qy, .inr (4, [.int th, .int (nI N), .ref qya, .ref qyb, .ref qyc, .ref qyd, .ref qye])), (qya, .inl (cA, 14, .inl al)), (qyc, .inl (cA, 56, .inl mn))] H0.size := ⟨_, rfl⟩
  rw [← hAe] at hD ⊢
  have hA : ∀ q : Nat, H0.size ≤ q → A q := fun q h => by rw [hAe]; exact Or.inr h
  have hS : va_S A H0 H0 [] := va_S.rf
  refine lv_aload_n hx hb dX4_season_0 rfl (lv_at hl 0 rfl) ?_
  refine lv_iload_n hx hb dX4_season_1 rfl (lv_at hl 1 rfl) ?_
  refine lv_iconst (v := 0) hx hb dX4_season_2 (by decide) ?_
  refine RO_go (va_runV (As := [.int (nI j), .int 0]) (rest := []) ⟨hx, hb, hml, hown, hts⟩ (c_X4_all l (D := D) (cA := cA) (H0 := H0) (j := j) (kd := 0) (hj := by omega) (hkd := by omega) (hN := by omega) (hP := hP.sub (ws' := [(qy, .inr (4, [.int th, .int (nI N), .ref qya, .ref qyb, .ref qyc, .ref qyd, .ref qye])), (qya, .inl (cA, 14, .inl al)), (qyc, .inl (cA, 56, .inl mn))]) [0, 1, 2] rfl)) (cwV 2 hts gX4_season_X4_all rfl rfl rfl (by decide +kernel) ⟨Nat.le_of_ble_eq_true rfl, Nat.le_of_ble_eq_true rfl⟩) (cP_V hK (va_recv hK.1 hP (ci := 4) (q0 := 0) rfl rfl)) rfl rfl hl.1 rfl (lv_room (Nat.le_of_ble_eq_true rfl)) dX4_season_3 ⟨by show _ ≤ 1; omega, by show _ ≤ 4; omega⟩) ?_
  refine lv_istore_n (lv' := [(2, .int (mA mn (al j) 0 N)), (0, .ref qy), (1, .int (nI j))]) hx hb dX4_season_6 rfl hl (by decide) rfl (fun ls hl => ?_)
  refine lv_aload_n hx hb dX4_season_7 rfl (lv_at hl 1 rfl) ?_
  refine lv_iload_n hx hb dX4_season_8 rfl (lv_at hl 2 rfl) ?_
  refine lv_iconst (v := 1) hx hb dX4_season_9 (by decide) ?_
  refine RO_go (va_runV (As := [.int (nI j), .int 1]) (rest := []) ⟨hx, hb, hml, hown, hts⟩ (c_X4_all l (D := D) (cA := cA) (H0 := H0) (j := j) (kd := 1) (hj := by omega) (hkd := by omega) (hN := by omega) (hP := hP.sub (ws' := [(qy, .inr (4, [.int th, .int (nI N), .ref qya, .ref qyb, .ref qyc, .ref qyd, .ref qye])), (qya, .inl (cA, 14, .inl al)), (qyc, .inl (cA, 56, .inl mn))]) [0, 1, 2] rfl)) (cwV 2 hts gX4_season_X4_all rfl rfl rfl (by decide +kernel) ⟨Nat.le_of_ble_eq_true rfl, Nat.le_of_ble_eq_true rfl⟩) (cP_V hK (va_recv hK.1 hP (ci := 4) (q0 := 0) rfl rfl)) rfl rfl hl.1 rfl (lv_room (Nat.le_of_ble_eq_true rfl)) dX4_season_10 ⟨by show _ ≤ 1; omega, by show _ ≤ 4; omega⟩) ?_
  refine lv_istore_n (lv' := [(3, .int (mA mn (al j) 1 N)), (2, .int (mA mn (al j) 0 N)), (0, .ref qy), (1, .int (nI j))]) hx hb dX4_season_13 rfl hl (by decide) rfl (fun ls hl => ?_)
  refine lv_aload_n hx hb dX4_season_14 rfl (lv_at hl 2 rfl) ?_
  refine lv_iload_n hx hb dX4_season_15 rfl (lv_at hl 3 rfl) ?_
  refine lv_iconst (v := 2) hx hb dX4_season_16 (by decide) ?_
  refine RO_go (va_runV (As := [.int (nI j), .int 2]) (rest := []) ⟨hx, hb, hml, hown, hts⟩ (c_X4_all l (D := D) (cA := cA) (H0 := H0) (j := j) (kd := 2) (hj := by omega) (hkd := by omega) (hN := by omega) (hP := hP.sub (ws' := [(qy, .inr (4, [.int th, .int (nI N), .ref qya, .ref qyb, .ref qyc, .ref qyd, .ref qye])), (qya, .inl (cA, 14, .inl al)), (qyc, .inl (cA, 56, .inl mn))]) [0, 1, 2] rfl)) (cwV 2 hts gX4_season_X4_all rfl rfl rfl (by decide +kernel) ⟨Nat.le_of_ble_eq_true rfl, Nat.le_of_ble_eq_true rfl⟩) (cP_V hK (va_recv hK.1 hP (ci := 4) (q0 := 0) rfl rfl)) rfl rfl hl.1 rfl (lv_room (Nat.le_of_ble_eq_true rfl)) dX4_season_17 ⟨by show _ ≤ 1; omega, by show _ ≤ 4; omega⟩) ?_
  refine lv_istore (lv' := [(4, .int (mA mn (al j) 2 N)), (3, .int (mA mn (al j) 1 N)), (2, .int (mA mn (al j) 0 N)), (0, .ref qy), (1, .int (nI j))]) hx hb dX4_season_20 hl (by decide) rfl (fun ls hl => ?_)
  refine lv_aload_n hx hb dX4_season_22 rfl (lv_at hl 3 rfl) ?_
  refine lv_iload_n hx hb dX4_season_23 rfl (lv_at hl 4 rfl) ?_
  refine lv_iconst (v := 3) hx hb dX4_season_24 (by decide) ?_
  refine RO_go (va_runV (As := [.int (nI j), .int 3]) (rest := []) ⟨hx, hb, hml, hown, hts⟩ (c_X4_all l (D := D) (cA := cA) (H0 := H0) (j := j) (kd := 3) (hj := by omega) (hkd := by omega) (hN := by omega) (hP := hP.sub (ws' := [(qy, .inr (4, [.int th, .int (nI N), .ref qya, .ref qyb, .ref qyc, .ref qyd, .ref qye])), (qya, .inl (cA, 14, .inl al)), (qyc, .inl (cA, 56, .inl mn))]) [0, 1, 2] rfl)) (cwV 2 hts gX4_season_X4_all rfl rfl rfl (by decide +kernel) ⟨Nat.le_of_ble_eq_true rfl, Nat.le_of_ble_eq_true rfl⟩) (cP_V hK (va_recv hK.1 hP (ci := 4) (q0 := 0) rfl rfl)) rfl rfl hl.1 rfl (lv_room (Nat.le_of_ble_eq_true rfl)) dX4_season_25 ⟨by show _ ≤ 1; omega, by show _ ≤ 4; omega⟩) ?_
  refine lv_istore (lv' := [(5, .int (mA mn (al j) 3 N)), (4, .int (mA mn (al j) 2 N)), (3, .int (mA mn (al j) 1 N)), (2, .int (mA mn (al j) 0 N)), (0, .ref qy), (1, .int (nI j))]) hx hb dX4_season_28 hl (by decide) rfl (fun ls hl => ?_)
  refine lv_iconst (v := 4) hx hb dX4_season_30 (by decide) ?_
  refine my_newa (D := D) (N' := 4) hx hb (hts (.arrayClass .int) (by decide +kernel)) hK hP hD hS hA (by decide) rfl (by decide) (by show _ ≤ 1; omega) (by show _ ≤ 4; omega) dX4_season_31 (fun q1 H hP hD hS hq => ?_)
  have hP : va_P D vwCl [(qy, .inr (4, [.int th, .int (nI N), .ref qya, .ref qyb, .ref qyc, .ref qyd, .ref qye])), (qya, .inl (cA, 14, .inl al)), (qyc, .inl (cA, 56, .inl mn)), (q1, .inl (cA, 4, .inl (fun _ => 0)))] H := hP
  have hD : va_D A [(qy, .inr (4, [.int th, .int (nI N), .ref qya, .ref qyb, .ref qyc, .ref qyd, .ref qye])), (qya, .inl (cA, 14, .inl al)), (qyc, .inl (cA, 56, .inl mn)), (q1, .inl (cA, 4, .inl (fun _ => 0)))] := hD
  refine lv_dup hx hb dX4_season_33 rfl ?_
  refine lv_iconst (v := 0) hx hb dX4_season_34 (by decide) ?_
  refine lv_iconst (v := 3) hx hb dX4_season_35 (by decide) ?_
  refine lv_iload_n hx hb dX4_season_36 rfl (lv_at hl 3 rfl) ?_
  refine lv_imul hx hb dX4_season_37 ?_
  refine lv_iload hx hb dX4_season_38 (lv_at hl 0 rfl) ?_
  refine lv_iadd hx hb dX4_season_40 ?_
  refine my_iast (D := D) (j := 0) hx hb hK hP hD hS 3 rfl (by omega) (by decide) dX4_season_41 (fun H locs hP hD hS => ?_)
  have hP : va_P D vwCl [(qy, .inr (4, [.int th, .int (nI N), .ref qya, .ref qyb, .ref qyc, .ref qyd, .ref qye])), (qya, .inl (cA, 14, .inl al)), (qyc, .inl (cA, 56, .inl mn)), (q1, .inl (cA, 4, .inl (upd (fun _ => 0) 0 ((3 * (mA mn (al j) 0 N)) + (mA mn (al j) 3 N)))))] H := hP
  have hD : va_D A [(qy, .inr (4, [.int th, .int (nI N), .ref qya, .ref qyb, .ref qyc, .ref qyd, .ref qye])), (qya, .inl (cA, 14, .inl al)), (qyc, .inl (cA, 56, .inl mn)), (q1, .inl (cA, 4, .inl (upd (fun _ => 0) 0 ((3 * (mA mn (al j) 0 N)) + (mA mn (al j) 3 N)))))] := hD
  refine lv_dup hx hb dX4_season_42 rfl ?_
  refine lv_iconst (v := 1) hx hb dX4_season_43 (by decide) ?_
  refine lv_iconst (v := 2) hx hb dX4_season_44 (by decide) ?_
  refine lv_iload_n hx hb dX4_season_45 rfl (lv_at hl 2 rfl) ?_
  refine lv_imul hx hb dX4_season_46 ?_
  refine lv_iload hx hb dX4_season_47 (lv_at hl 1 rfl) ?_
  refine lv_iconst (v := 2) hx hb dX4_season_49 (by decide) ?_
  refine lv_idiv hx hb dX4_season_50 (by decide) ?_
  refine lv_iadd hx hb dX4_season_51 ?_
  refine my_iast (D := D) (j := 1) hx hb hK hP hD hS 3 rfl (by omega) (by decide) dX4_season_52 (fun H locs hP hD hS => ?_)
  have hP : va_P D vwCl [(qy, .inr (4, [.int th, .int (nI N), .ref qya, .ref qyb, .ref qyc, .ref qyd, .ref qye])), (qya, .inl (cA, 14, .inl al)), (qyc, .inl (cA, 56, .inl mn)), (q1, .inl (cA, 4, .inl (upd (upd (fun _ => 0) 0 ((3 * (mA mn (al j) 0 N)) + (mA mn (al j) 3 N))) 1 ((2 * (mA mn (al j) 1 N)) + ((mA mn (al j) 2 N) / 2)))))] H := hP
  have hD : va_D A [(qy, .inr (4, [.int th, .int (nI N), .ref qya, .ref qyb, .ref qyc, .ref qyd, .ref qye])), (qya, .inl (cA, 14, .inl al)), (qyc, .inl (cA, 56, .inl mn)), (q1, .inl (cA, 4, .inl (upd (upd (fun _ => 0) 0 ((3 * (mA mn (al j) 0 N)) + (mA mn (al j) 3 N))) 1 ((2 * (mA mn (al j) 1 N)) + ((mA mn (al j) 2 N) / 2)))))] := hD
  refine lv_dup hx hb dX4_season_53 rfl ?_
  refine lv_iconst (v := 2) hx hb dX4_season_54 (by decide) ?_
  refine lv_iconst (v := 2) hx hb dX4_season_55 (by decide) ?_
  refine lv_iload hx hb dX4_season_56 (lv_at hl 1 rfl) ?_
  refine lv_imul hx hb dX4_season_58 ?_
  refine lv_iload_n hx hb dX4_season_59 rfl (lv_at hl 2 rfl) ?_
  refine lv_iadd hx hb dX4_season_60 ?_
  refine my_iast (D := D) (j := 2) hx hb hK hP hD hS 3 rfl (by omega) (by decide) dX4_season_61 (fun H locs hP hD hS => ?_)
  have hP : va_P D vwCl [(qy, .inr (4, [.int th, .int (nI N), .ref qya, .ref qyb, .ref qyc, .ref qyd, .ref qye])), (qya, .inl (cA, 14, .inl al)), (qyc, .inl (cA, 56, .inl mn)), (q1, .inl (cA, 4, .inl (upd (upd (upd (fun _ => 0) 0 ((3 * (mA mn (al j) 0 N)) + (mA mn (al j) 3 N))) 1 ((2 * (mA mn (al j) 1 N)) + ((mA mn (al j) 2 N) / 2))) 2 ((2 * (mA mn (al j) 2 N)) + (mA mn (al j) 1 N)))))] H := hP
  have hD : va_D A [(qy, .inr (4, [.int th, .int (nI N), .ref qya, .ref qyb, .ref qyc, .ref qyd, .ref qye])), (qya, .inl (cA, 14, .inl al)), (qyc, .inl (cA, 56, .inl mn)), (q1, .inl (cA, 4, .inl (upd (upd (upd (fun _ => 0) 0 ((3 * (mA mn (al j) 0 N)) + (mA mn (al j) 3 N))) 1 ((2 * (mA mn (al j) 1 N)) + ((mA mn (al j) 2 N) / 2))) 2 ((2 * (mA mn (al j) 2 N)) + (mA mn (al j) 1 N)))))] := hD
  refine lv_dup hx hb dX4_season_62 rfl ?_
  refine lv_iconst (v := 3) hx hb dX4_season_63 (by decide) ?_
  refine lv_iconst (v := 4) hx hb dX4_season_64 (by decide) ?_
  refine lv_iload hx hb dX4_season_65 (lv_at hl 0 rfl) ?_
  refine lv_imul hx hb dX4_season_67 ?_
  refine lv_iload_n hx hb dX4_season_68 rfl (lv_at hl 3 rfl) ?_
  refine lv_iadd hx hb dX4_season_69 ?_
  refine my_iast (D := D) (j := 3) hx hb hK hP hD hS 3 rfl (by omega) (by decide) dX4_season_70 (fun H locs hP hD hS => ?_)
  have hP : va_P D vwCl [(qy, .inr (4, [.int th, .int (nI N), .ref qya, .ref qyb, .ref qyc, .ref qyd, .ref qye])), (qya, .inl (cA, 14, .inl al)), (qyc, .inl (cA, 56, .inl mn)), (q1, .inl (cA, 4, .inl (upd (upd (upd (upd (fun _ => 0) 0 ((3 * (mA mn (al j) 0 N)) + (mA mn (al j) 3 N))) 1 ((2 * (mA mn (al j) 1 N)) + ((mA mn (al j) 2 N) / 2))) 2 ((2 * (mA mn (al j) 2 N)) + (mA mn (al j) 1 N))) 3 ((4 * (mA mn (al j) 3 N)) + (mA mn (al j) 0 N)))))] H := hP
  have hD : va_D A [(qy, .inr (4, [.int th, .int (nI N), .ref qya, .ref qyb, .ref qyc, .ref qyd, .ref qye])), (qya, .inl (cA, 14, .inl al)), (qyc, .inl (cA, 56, .inl mn)), (q1, .inl (cA, 4, .inl (upd (upd (upd (upd (fun _ => 0) 0 ((3 * (mA mn (al j) 0 N)) + (mA mn (al j) 3 N))) 1 ((2 * (mA mn (al j) 1 N)) + ((mA mn (al j) 2 N) / 2))) 2 ((2 * (mA mn (al j) 2 N)) + (mA mn (al j) 1 N))) 3 ((4 * (mA mn (al j) 3 N)) + (mA mn (al j) 0 N)))))] := hD
  refine lv_astore (lv' := [(6, .ref q1), (5, .int (mA mn (al j) 3 N)), (4, .int (mA mn (al j) 2 N)), (3, .int (mA mn (al j) 1 N)), (2, .int (mA mn (al j) 0 N)), (0, .ref qy), (1, .int (nI j))]) hx hb dX4_season_71 hl (by decide) rfl (fun ls hl => ?_)
  have hP : va_P D vwCl [(qy, .inr (4, [.int th, .int (nI N), .ref qya, .ref qyb, .ref qyc, .ref qyd, .ref qye])), (qya, .inl (cA, 14, .inl al)), (qyc, .inl (cA, 56, .inl mn)), (q1, .inl (cA, 4, .inl (tel (mA mn (al j) 0 N) (mA mn (al j) 1 N) (mA mn (al j) 2 N) (mA mn (al j) 3 N))))] H := hP
  have hD : va_D A [(qy, .inr (4, [.int th, .int (nI N), .ref qya, .ref qyb, .ref qyc, .ref qyd, .ref qye])), (qya, .inl (cA, 14, .inl al)), (qyc, .inl (cA, 56, .inl mn)), (q1, .inl (cA, 4, .inl (tel (mA mn (al j) 0 N) (mA mn (al j) 1 N) (mA mn (al j) 2 N) (mA mn (al j) 3 N))))] := hD
  refine lv_iconst (v := 0) hx hb dX4_season_73 (by decide) ?_
  refine lv_istore (lv' := [(7, .int 0), (6, .ref q1), (5, .int (mA mn (al j) 3 N)), (4, .int (mA mn (al j) 2 N)), (3, .int (mA mn (al j) 1 N)), (2, .int (mA mn (al j) 0 N)), (0, .ref qy), (1, .int (nI j))]) hx hb dX4_season_74 hl (by decide) rfl (fun ls hl => ?_)
  refine lv_iconst (v := 1) hx hb dX4_season_76 (by decide) ?_
  refine lv_istore (lv' := [(8, .int 1), (7, .int 0), (6, .ref q1), (5, .int (mA mn (al j) 3 N)), (4, .int (mA mn (al j) 2 N)), (3, .int (mA mn (al j) 1 N)), (2, .int (mA mn (al j) 0 N)), (0, .ref qy), (1, .int (nI j))]) hx hb dX4_season_77 hl (by decide) rfl (fun ls hl => ?_)
  suffices loop : ∀ (n k : Nat) (y7 : Nat), k ≤ 4 → 4 < k + n → y7 = mbs (tel (mA mn (al j) 0 N) (mA mn (al j) 1 N) (mA mn (al j) 2 N) (mA mn (al j) 3 N)) k → y7 < 4 → ∀ (H : Heap) (locs : List Loc), va_P D vwCl [(qy, .inr (4, [.int th, .int (nI N), .ref qya, .ref qyb, .ref qyc, .ref qyd, .ref qye])), (qya, .inl (cA, 14, .inl al)), (qyc, .inl (cA, 56, .inl mn)), (q1, .inl (cA, 4, .inl (tel (mA mn (al j) 0 N) (mA mn (al j) 1 N) (mA mn (al j) 2 N) (mA mn (al j) 3 N))))] H → va_D A [(qy, .inr (4, [.int th, .int (nI N), .ref qya, .ref qyb, .ref qyc, .ref qyd, .ref qye])), (qya, .inl (cA, 14, .inl al)), (qyc, .inl (cA, 56, .inl mn)), (q1, .inl (cA, 4, .inl (tel (mA mn (al j) 0 N) (mA mn (al j) 1 N) (mA mn (al j) 2 N) (mA mn (al j) 3 N))))] → va_S A H0 H locs → ∀ ls, lv_has ls 9 [(8, .int (nI k)), (7, .int (nI y7)), (6, .ref q1), (5, .int (mA mn (al j) 3 N)), (4, .int (mA mn (al j) 2 N)), (3, .int (mA mn (al j) 1 N)), (2, .int (mA mn (al j) 0 N)), (0, .ref qy), (1, .int (nI j))] → W p l e { frames := 2, cells := 1, slots := 4, locals := 45 } s m ([.ref qy, .int (nI j)] : List Value).toArray below meth c H locs (0 + 1) (0 + 4) (MQ below (wrQ (some (.int (mssn (mA mn (al j) 0 N) (mA mn (al j) 1 N) (mA mn (al j) 2 N) (mA mn (al j) 3 N)))) D [(qy, .inr (4, [.int th, .int (nI N), .ref qya, .ref qyb, .ref qyc, .ref qyd, .ref qye])), (qya, .inl (cA, 14, .inl al)), (qyc, .inl (cA, 56, .inl mn))] [(qy, .inr (4, [.int th, .int (nI N), .ref qya, .ref qyb, .ref qyc, .ref qyd, .ref qye])), (qya, .inl (cA, 14, .inl al)), (qyc, .inl (cA, 56, .inl mn))] H0) ([.ref qy, .int (nI j)] : List Value).toArray s 1 4 A) (F0 m 79 ls []) from loop (4 + 1) 1 0 (by omega) (by omega) (by first | rfl | (simp [mbs]; done) | (simp [mbs]; done)) (by omega) _ _ hP hD hS _ (lv_sub hl [0, 1, 2, 3, 4, 5, 6, 7, 8] rfl)
  intro n
  induction n with
  | zero => intro k y7 hk1 hk2; exact absurd hk2 (by omega)
  | succ n ih79 =>
    intro k y7 hk79 hn79 ey7 hy7 H locs hP hD hS ls hl
    refine lv_iload hx hb dX4_season_79 (lv_at hl 0 rfl) ?_
    refine lv_iconst (v := 4) hx hb dX4_season_81 (by decide) ?_
    refine my_geN (x := k) (y := 4) (tgt := 108) hx hb dX4_season_82 (by decide) (by omega) (by omega) (fun h2 => ?_) (fun h2 => ?_)
    · obtain rfl : k = 4 := by omega
      subst ey7
      refine lv_iload_n hx hb dX4_season_108 rfl (lv_at hl 6 rfl) ?_
      refine lv_iload_n hx hb dX4_season_109 rfl (lv_at hl 5 rfl) ?_
      refine lv_iadd hx hb dX4_season_110 ?_
      refine lv_iload hx hb dX4_season_111 (lv_at hl 4 rfl) ?_
      refine lv_iadd hx hb dX4_season_113 ?_
      refine lv_iload hx hb dX4_season_114 (lv_at hl 3 rfl) ?_
      refine lv_iadd hx hb dX4_season_116 ?_
      refine lv_if_ne (tgt := 124) hx hb dX4_season_117 (by decide) (fun h3 => ?_) (fun h3 => ?_)
      · refine lv_iload hx hb dX4_season_124 (lv_at hl 1 rfl) ?_
        exact WR_zret hAe hx hb hr hlk hH dX4_season_126 (by omega) (by omega) (hP.sub [0, 1, 2] rfl) hS (by rfl) (by first | rfl | simp [mssn, h2, h3])
      · refine lv_iconst (v := (-1)) hx hb dX4_season_120 (by decide) ?_
        refine lv_goto (tgt := 126) hx hb dX4_season_121 (by decide) ?_
        exact WR_zret hAe hx hb hr hlk hH dX4_season_126 (by omega) (by omega) (hP.sub [0, 1, 2] rfl) hS (by rfl) (by first | rfl | simp [mssn, h2, h3])
    · refine lv_aload hx hb dX4_season_85 (lv_at hl 2 rfl) ?_
      refine lv_iload hx hb dX4_season_87 (lv_at hl 0 rfl) ?_
      refine my_iald (D := D) (j := k) hx hb hK hP 3 rfl (by omega) (by decide) dX4_season_89 ?_
      refine lv_aload hx hb dX4_season_90 (lv_at hl 2 rfl) ?_
      refine lv_iload hx hb dX4_season_92 (lv_at hl 1 rfl) ?_
      refine my_iald (D := D) (j := y7) hx hb hK hP 3 rfl (by omega) (by decide) dX4_season_94 ?_
      refine lv_icmp_le (tgt := 102) hx hb dX4_season_95 (by decide) (fun h4 => ?_) (fun h4 => ?_)
      · refine lv_iinc (v := nI (k + 1)) (x := nI k) (lv' := [(8, .int (nI (k + 1))), (7, .int (nI y7)), (6, .ref q1), (5, .int (mA mn (al j) 3 N)), (4, .int (mA mn (al j) 2 N)), (3, .int (mA mn (al j) 1 N)), (2, .int (mA mn (al j) 0 N)), (0, .ref qy), (1, .int (nI j))]) hx hb dX4_season_102 hl (k := 0) rfl (nI_1 k) (by decide) rfl (fun ls hl => ?_)
        refine lv_goto (tgt := 79) hx hb dX4_season_105 (by decide) ?_
        exact ih79 (k + 1) y7 (by omega) (by omega) (by simp only [mbs]; rw [← ey7]; first | rw [if_pos (fa_of_nle h4)] | rw [if_neg (fun h9 => (fa_of_lt h9).2.1 h4)]) (by omega) _ _ hP hD hS _ (lv_sub hl [0, 1, 2, 3, 4, 5, 6, 7, 8] rfl)
      · refine lv_iload hx hb dX4_season_98 (lv_at hl 0 rfl) ?_
        refine lv_istore (lv' := [(7, .int (nI k)), (8, .int (nI k)), (6, .ref q1), (5, .int (mA mn (al j) 3 N)), (4, .int (mA mn (al j) 2 N)), (3, .int (mA mn (al j) 1 N)), (2, .int (mA mn (al j) 0 N)), (0, .ref qy), (1, .int (nI j))]) hx hb dX4_season_100 hl (by decide) rfl (fun ls hl => ?_)
        refine lv_iinc (v := nI (k + 1)) (x := nI k) (lv' := [(8, .int (nI (k + 1))), (7, .int (nI k)), (6, .ref q1), (5, .int (mA mn (al j) 3 N)), (4, .int (mA mn (al j) 2 N)), (3, .int (mA mn (al j) 1 N)), (2, .int (mA mn (al j) 0 N)), (0, .ref qy), (1, .int (nI j))]) hx hb dX4_season_102 hl (k := 1) rfl (nI_1 k) (by decide) rfl (fun ls hl => ?_)
        refine lv_goto (tgt := 79) hx hb dX4_season_105 (by decide) ?_
        exact ih79 (k + 1) k (by omega) (by omega) (by simp only [mbs]; rw [← ey7]; first | rw [if_pos (fa_of_nle h4)] | rw [if_neg (fun h9 => (fa_of_lt h9).2.1 h4)]) (by omega) _ _ hP hD hS _ (lv_sub hl [0, 1, 2, 3, 4, 5, 6, 7, 8] rfl)
set_option maxHeartbeats 4000000 in
set_option maxRecDepth 100000 in
theorem c_X4_toldOf (l : Launch) {D : va_G} {cA : ClassId} {H0 : Heap} {qy qya qyb qyc qyd qye N : Nat} {th : Int32} {al be mn fr tt : Nat → Int32} (j : Nat) (w : Nat) (hj : j < 14) (hw : w < 9) (hN : N ≤ 14) (hP : va_P D vwCl [(qy, .inr (4, [.int th, .int (nI N), .ref qya, .ref qyb, .ref qyc, .ref qyd, .ref qye])), (qya, .inl (cA, 14, .inl al)), (qyb, .inl (cA, 14, .inl be)), (qyc, .inl (cA, 56, .inl mn)), (qyd, .inl (cA, 14, .inl fr)), (qye, .inl (cA, 14, .inl tt))] H0) (hD0 : va_D (fun _ => True) [(qy, .inr (4, [.int th, .int (nI N), .ref qya, .ref qyb, .ref qyc, .ref qyd, .ref qye])), (qya, .inl (cA, 14, .inl al)), (qyb, .inl (cA, 14, .inl be)), (qyc, .inl (cA, 56, .inl mn)), (qyd, .inl (cA, 14, .inl fr)), (qye, .inl (cA, 14, .inl tt))]) : WR l yX4_toldOf wsX4_toldOf 3 73 1 14 [.ref qy, .int (nI j), .int (nI w)] D cA H0 (some (.int (mtol N al be mn fr tt j w))) [(qy, .inr (4, [.int th, .int (nI N), .ref qya, .ref qyb, .ref qyc, .ref qyd, .ref qye])), (qya, .inl (cA, 14, .inl al)), (qyb, .inl (cA, 14, .inl be)), (qyc, .inl (cA, 56, .inl mn)), (qyd, .inl (cA, 14, .inl fr)), (qye, .inl (cA, 14, .inl tt))] [(qy, .inr (4, [.int th, .int (nI N), .ref qya, .ref qyb, .ref qyc, .ref qyd, .ref qye])), (qya, .inl (cA, 14, .inl al)), (qyb, .inl (cA, 14, .inl be)), (qyc, .inl (cA, 56, .inl mn)), (qyd, .inl (cA, 14, .inl fr)), (qye, .inl (cA, 14, .inl tt))] := by
  refine WR_of (cc := cX4_toldOf) (maxL := 3) (ret := (some .int)) (by decide) rfl (Nat.le_of_ble_eq_true rfl) ?_
  intro p e s m below meth c ls hx hb hml hr hown hts hlk hin2 hH hK hl
  have hown : s.vm.findClass RX4 = some m.cls := hown
  have hl : lv_has ls 3 [(0, .ref qy), (1, .int (nI j)), (2, .int (nI w))] := hl
  have hinX4 : ∀ w ∈ wsX40, w ∈ wsX4_toldOf := by decide +kernel
  have hD := hD0.self (sz := H0.size)
  obtain ⟨A, hAe⟩ : ∃ A, A = va_A [(qy, .inr (4, [.int th, .int (nI N), .ref qya, .ref qyb, .ref qyc, .ref qyd, .ref qye])), (qya, .inl (cA, 14, .inl al)), (qyb, .inl (cA, 14, .inl be)), (qyc, .inl (cA, 56, .inl mn)), (qyd, .inl (cA, 14, .inl fr)), (qye, .inl (cA, 14, .inl tt))] H0.size := ⟨_, rfl⟩
  rw [← hAe] at hD ⊢
  have hA : ∀ q : Nat, H0.size ≤ q → A q := fun q h => by rw [hAe]; exact Or.inr h
  have hS : va_S A H0 H0 [] := va_S.rf
  refine lv_iload_n hx hb dX4_toldOf_0 rfl (lv_at hl 2 rfl) ?_
  rcases (show w = 0 ∨ w = 1 ∨ w = 2 ∨ w = 3 ∨ w = 4 ∨ w = 5 ∨ w = 6 ∨ w = 7 ∨ w = 8 by omega) with rfl | rfl | rfl | rfl | rfl | rfl | rfl | rfl | rfl
  · have hl : lv_has ls 3 [(0, .ref qy), (1, .int (nI j)), (2, .int (nI 0))] := hl
    refine lv_tableIn (tgt := 48) hx hb dX4_toldOf_1 (by decide) (by decide) rfl (by decide) ?_
    refine lv_aload_n hx hb dX4_toldOf_48 rfl (lv_at hl 0 rfl) ?_
    refine lv_iload_n hx hb dX4_toldOf_49 rfl (lv_at hl 1 rfl) ?_
    refine RO_go (va_runV (As := [.int (nI j)]) (rest := []) ⟨hx, hb, hml, hown, hts⟩ (c_X4_from l (D := D) (cA := cA) (H0 := H0) (j := j) (hj := by omega) (hN := by omega) (hP := hP.sub (ws' := [(qy, .inr (4, [.int th, .int (nI N), .ref qya, .ref qyb, .ref qyc, .ref qyd, .ref qye])), (qya, .inl (cA, 14, .inl al)), (qyb, .inl (cA, 14, .inl be)), (qyd, .inl (cA, 14, .inl fr))]) [0, 1, 2, 4] rfl)) (cwV 1 hts gX4_toldOf_X4_from rfl rfl rfl (by decide +kernel) ⟨Nat.le_of_ble_eq_true rfl, Nat.le_of_ble_eq_true rfl⟩) (cP_V hK (va_recv hK.1 hP (ci := 4) (q0 := 0) rfl rfl)) rfl rfl hl.1 rfl (lv_room (Nat.le_of_ble_eq_true rfl)) dX4_toldOf_50 ⟨by show _ ≤ 1; omega, by show _ ≤ 14; omega⟩) ?_
    exact WR_zret hAe hx hb hr hlk hH dX4_toldOf_53 (by omega) (by omega) (hP.sub [0, 1, 2, 3, 4, 5] rfl) hS (by rfl) (by first | rfl | simp [mtol, bI])
  · have hl : lv_has ls 3 [(0, .ref qy), (1, .int (nI j)), (2, .int (nI 1))] := hl
    refine lv_tableIn (tgt := 54) hx hb dX4_toldOf_1 (by decide) (by decide) rfl (by decide) ?_
    refine lv_aload_n hx hb dX4_toldOf_54 rfl (lv_at hl 0 rfl) ?_
    refine lv_iload_n hx hb dX4_toldOf_55 rfl (lv_at hl 1 rfl) ?_
    refine RO_go (va_runV (As := [.int (nI j)]) (rest := []) ⟨hx, hb, hml, hown, hts⟩ (c_X4_to l (D := D) (cA := cA) (H0 := H0) (j := j) (hj := by omega) (hN := by omega) (hP := hP.sub (ws' := [(qy, .inr (4, [.int th, .int (nI N), .ref qya, .ref qyb, .ref qyc, .ref qyd, .ref qye])), (qya, .inl (cA, 14, .inl al)), (qyb, .inl (cA, 14, .inl be)), (qyd, .inl (cA, 14, .inl fr)), (qye, .inl (cA, 14, .inl tt))]) [0, 1, 2, 4, 5] rfl)) (cwV 1 hts gX4_toldOf_X4_to rfl rfl rfl (by decide +kernel) ⟨Nat.le_of_ble_eq_true rfl, Nat.le_of_ble_eq_true rfl⟩) (cP_V hK (va_recv hK.1 hP (ci := 4) (q0 := 0) rfl rfl)) rfl rfl hl.1 rfl (lv_room (Nat.le_of_ble_eq_true rfl)) dX4_toldOf_56 ⟨by show _ ≤ 1; omega, by show _ ≤ 14; omega⟩) ?_
    exact WR_zret hAe hx hb hr hlk hH dX4_toldOf_59 (by omega) (by omega) (hP.sub [0, 1, 2, 3, 4, 5] rfl) hS (by rfl) (by first | rfl | simp [mtol, bI])
  · have hl : lv_has ls 3 [(0, .ref qy), (1, .int (nI j)), (2, .int (nI 2))] := hl
    refine lv_tableIn (tgt := 60) hx hb dX4_toldOf_1 (by decide) (by decide) rfl (by decide) ?_
    refine lv_aload_n hx hb dX4_toldOf_60 rfl (lv_at hl 0 rfl) ?_
    refine lv_iload_n hx hb dX4_toldOf_61 rfl (lv_at hl 1 rfl) ?_
    refine RO_go (va_runV (As := [.int (nI j)]) (rest := []) ⟨hx, hb, hml, hown, hts⟩ (c_X4_isDoubtful l (D := D) (cA := cA) (H0 := H0) (j := j) (hj := by omega) (hN := by omega) (hP := hP.sub (ws' := [(qy, .inr (4, [.int th, .int (nI N), .ref qya, .ref qyb, .ref qyc, .ref qyd, .ref qye])), (qya, .inl (cA, 14, .inl al)), (qyb, .inl (cA, 14, .inl be)), (qyd, .inl (cA, 14, .inl fr)), (qye, .inl (cA, 14, .inl tt))]) [0, 1, 2, 4, 5] rfl)) (cwV 1 hts gX4_toldOf_X4_isDoubtful rfl rfl rfl (by decide +kernel) ⟨Nat.le_of_ble_eq_true rfl, Nat.le_of_ble_eq_true rfl⟩) (cP_V hK (va_recv hK.1 hP (ci := 4) (q0 := 0) rfl rfl)) rfl rfl hl.1 rfl (lv_room (Nat.le_of_ble_eq_true rfl)) dX4_toldOf_62 ⟨by show _ ≤ 1; omega, by show _ ≤ 14; omega⟩) ?_
    refine my_ifeq_b (tgt := 72) hx hb dX4_toldOf_65 (by decide) (fun h1 => ?_) (fun h1 => ?_)
    · refine lv_iconst (v := 0) hx hb dX4_toldOf_72 (by decide) ?_
      exact WR_zret hAe hx hb hr hlk hH dX4_toldOf_73 (by omega) (by omega) (hP.sub [0, 1, 2, 3, 4, 5] rfl) hS (by rfl) (by first | rfl | simp [mtol, bI, h1])
    · refine lv_iconst (v := 1) hx hb dX4_toldOf_68 (by decide) ?_
      refine lv_goto (tgt := 73) hx hb dX4_toldOf_69 (by decide) ?_
      exact WR_zret hAe hx hb hr hlk hH dX4_toldOf_73 (by omega) (by omega) (hP.sub [0, 1, 2, 3, 4, 5] rfl) hS (by rfl) (by first | rfl | simp [mtol, bI, h1])
  · have hl : lv_has ls 3 [(0, .ref qy), (1, .int (nI j)), (2, .int (nI 3))] := hl
    refine lv_tableIn (tgt := 74) hx hb dX4_toldOf_1 (by decide) (by decide) rfl (by decide) ?_
    refine lv_aload_n hx hb dX4_toldOf_74 rfl (lv_at hl 0 rfl) ?_
    refine RQ_go (wr := [(qya, .inl (cA, 14, .inl al)), (qyc, .inl (cA, 56, .inl mn)), (qyd, .inl (cA, 14, .inl fr)), (qye, .inl (cA, 14, .inl tt))]) (va_runV (As := []) (rest := []) ⟨hx, hb, hml, hown, hts⟩ (c_X4_phases l (D := D) (cA := cA) (H0 := H0) (hN := by omega) (hP := hP.sub (ws' := [(qy, .inr (4, [.int th, .int (nI N), .ref qya, .ref qyb, .ref qyc, .ref qyd, .ref qye])), (qyb, .inl (cA, 14, .inl be))]) [0, 2] rfl) (hD0 := (hD.sub (ws' := [(qy, .inr (4, [.int th, .int (nI N), .ref qya, .ref qyb, .ref qyc, .ref qyd, .ref qye])), (qyb, .inl (cA, 14, .inl be))]) [0, 2] (by decide) rfl).weaken (fun _ _ _ _ => trivial))) (cwV 0 hts gX4_toldOf_X4_phases rfl rfl rfl (by decide +kernel) ⟨Nat.le_of_ble_eq_true rfl, Nat.le_of_ble_eq_true rfl⟩) (cP_V hK (va_recv hK.1 hP (ci := 4) (q0 := 0) rfl rfl)) rfl rfl hl.1 rfl (lv_room (Nat.le_of_ble_eq_true rfl)) dX4_toldOf_75 ⟨by show _ ≤ 1; omega, by show _ ≤ 14; omega⟩) hP hD hS hA [0, 2] [1, 3, 4, 5] rfl rfl (by decide) (by decide) (fun v9 W9 H locs hp9 hP hD hS hz => ?_)
    obtain ⟨q2, rfl, rfl⟩ := hp9
    have hP : va_P D vwCl [(qy, .inr (4, [.int th, .int (nI N), .ref qya, .ref qyb, .ref qyc, .ref qyd, .ref qye])), (qya, .inl (cA, 14, .inl al)), (qyb, .inl (cA, 14, .inl be)), (qyc, .inl (cA, 56, .inl mn)), (qyd, .inl (cA, 14, .inl fr)), (qye, .inl (cA, 14, .inl tt)), (q2, .inl (cA, 14, .inl (ph1 N be N)))] H := hP.sub [4, 0, 5, 1, 2, 3, 6] rfl
    have hD : va_D A [(qy, .inr (4, [.int th, .int (nI N), .ref qya, .ref qyb, .ref qyc, .ref qyd, .ref qye])), (qya, .inl (cA, 14, .inl al)), (qyb, .inl (cA, 14, .inl be)), (qyc, .inl (cA, 56, .inl mn)), (qyd, .inl (cA, 14, .inl fr)), (qye, .inl (cA, 14, .inl tt)), (q2, .inl (cA, 14, .inl (ph1 N be N)))] := hD.sub [4, 0, 5, 1, 2, 3, 6] (by decide) rfl
    refine W.eq (g2 := F0 m 78 ls [.ref q2]) rfl ?_
    refine lv_iload_n hx hb dX4_toldOf_78 rfl (lv_at hl 1 rfl) ?_
    refine my_iald (D := D) (j := j) hx hb hK hP 6 rfl (by omega) (by decide) dX4_toldOf_79 ?_
    exact WR_zret hAe hx hb hr hlk hH dX4_toldOf_80 (by omega) (by omega) (hP.sub [0, 1, 2, 3, 4, 5] rfl) hS (by rfl) (by first | rfl | simp [mtol, bI])
  · have hl : lv_has ls 3 [(0, .ref qy), (1, .int (nI j)), (2, .int (nI 4))] := hl
    refine lv_tableIn (tgt := 81) hx hb dX4_toldOf_1 (by decide) (by decide) rfl (by decide) ?_
    refine lv_aload_n hx hb dX4_toldOf_81 rfl (lv_at hl 0 rfl) ?_
    refine va_get (D := D) (ci := 4) (v := .ref qyb) (C := RX4) (T := TX4) (N := 7) hx hb hts hinX4 hown hK.1 hP 0 rfl rfl 3 (by decide) (hts (.fieldLink RX4 13 "CairnShellsModel" "beneath" "[I") (by decide +kernel)) (fun _ h9 => h9) rfl dX4_toldOf_82 ?_
    refine lv_iload_n hx hb dX4_toldOf_85 rfl (lv_at hl 1 rfl) ?_
    refine my_iald (D := D) (j := j) hx hb hK hP 2 rfl (by omega) (by decide) dX4_toldOf_86 ?_
    refine RO_go (va_runS (As := [.int (be j)]) (rest := []) ⟨hx, hb, hml, hown, hts⟩ (c_X4_size l (D := D) (cA := cA) (H0 := H0) (x := be j)) (va_cwS 1 hts gX4_toldOf_X4_size rfl rfl rfl (by decide +kernel) ⟨Nat.le_of_ble_eq_true rfl, Nat.le_of_ble_eq_true rfl⟩) (cP_S hK) rfl rfl hl.1 rfl (lv_room (Nat.le_of_ble_eq_true rfl)) dX4_toldOf_87 ⟨by show _ ≤ 1; omega, by show _ ≤ 14; omega⟩) ?_
    exact WR_zret hAe hx hb hr hlk hH dX4_toldOf_90 (by omega) (by omega) (hP.sub [0, 1, 2, 3, 4, 5] rfl) hS (by rfl) (by first | rfl | simp [mtol, bI])
  · have hl : lv_has ls 3 [(0, .ref qy), (1, .int (nI j)), (2, .int (nI 5))] := hl
    refine lv_tableIn (tgt := 91) hx hb dX4_toldOf_1 (by decide) (by decide) rfl (by decide) ?_
    refine lv_aload_n hx hb dX4_toldOf_91 rfl (lv_at hl 0 rfl) ?_
    refine lv_iload_n hx hb dX4_toldOf_92 rfl (lv_at hl 1 rfl) ?_
    refine RO_go (va_runV (As := [.int (nI j)]) (rest := []) ⟨hx, hb, hml, hown, hts⟩ (c_X4_laterThan l (D := D) (cA := cA) (H0 := H0) (j := j) (hj := by omega) (hN := by omega) (hP := hP.sub (ws' := [(qy, .inr (4, [.int th, .int (nI N), .ref qya, .ref qyb, .ref qyc, .ref qyd, .ref qye])), (qyb, .inl (cA, 14, .inl be))]) [0, 2] rfl)) (cwV 1 hts gX4_toldOf_X4_laterThan rfl rfl rfl (by decide +kernel) ⟨Nat.le_of_ble_eq_true rfl, Nat.le_of_ble_eq_true rfl⟩) (cP_V hK (va_recv hK.1 hP (ci := 4) (q0 := 0) rfl rfl)) rfl rfl hl.1 rfl (lv_room (Nat.le_of_ble_eq_true rfl)) dX4_toldOf_93 ⟨by show _ ≤ 1; omega, by show _ ≤ 14; omega⟩) ?_
    exact WR_zret hAe hx hb hr hlk hH dX4_toldOf_96 (by omega) (by omega) (hP.sub [0, 1, 2, 3, 4, 5] rfl) hS (by rfl) (by first | rfl | simp [mtol, bI])
  · have hl : lv_has ls 3 [(0, .ref qy), (1, .int (nI j)), (2, .int (nI 6))] := hl
    refine lv_tableIn (tgt := 97) hx hb dX4_toldOf_1 (by decide) (by decide) rfl (by decide) ?_
    refine lv_aload_n hx hb dX4_toldOf_97 rfl (lv_at hl 0 rfl) ?_
    refine va_get (D := D) (ci := 4) (v := .ref qya) (C := RX4) (T := TX4) (N := 7) hx hb hts hinX4 hown hK.1 hP 0 rfl rfl 2 (by decide) (hts (.fieldLink RX4 9 "CairnShellsModel" "alike" "[I") (by decide +kernel)) (fun _ h9 => h9) rfl dX4_toldOf_98 ?_
    refine lv_iload_n hx hb dX4_toldOf_101 rfl (lv_at hl 1 rfl) ?_
    refine my_iald (D := D) (j := j) hx hb hK hP 1 rfl (by omega) (by decide) dX4_toldOf_102 ?_
    refine RO_go (va_runS (As := [.int (al j)]) (rest := []) ⟨hx, hb, hml, hown, hts⟩ (c_X4_size l (D := D) (cA := cA) (H0 := H0) (x := al j)) (va_cwS 1 hts gX4_toldOf_X4_size rfl rfl rfl (by decide +kernel) ⟨Nat.le_of_ble_eq_true rfl, Nat.le_of_ble_eq_true rfl⟩) (cP_S hK) rfl rfl hl.1 rfl (lv_room (Nat.le_of_ble_eq_true rfl)) dX4_toldOf_103 ⟨by show _ ≤ 1; omega, by show _ ≤ 14; omega⟩) ?_
    exact WR_zret hAe hx hb hr hlk hH dX4_toldOf_106 (by omega) (by omega) (hP.sub [0, 1, 2, 3, 4, 5] rfl) hS (by rfl) (by first | rfl | simp [mtol, bI])
  · have hl : lv_has ls 3 [(0, .ref qy), (1, .int (nI j)), (2, .int (nI 7))] := hl
    refine lv_tableIn (tgt := 107) hx hb dX4_toldOf_1 (by decide) (by decide) rfl (by decide) ?_
    refine lv_aload_n hx hb dX4_toldOf_107 rfl (lv_at hl 0 rfl) ?_
    refine lv_iload_n hx hb dX4_toldOf_108 rfl (lv_at hl 1 rfl) ?_
    refine WR_go (ws' := [(qy, .inr (4, [.int th, .int (nI N), .ref qya, .ref qyb, .ref qyc, .ref qyd, .ref qye])), (qya, .inl (cA, 14, .inl al)), (qyb, .inl (cA, 14, .inl be)), (qyc, .inl (cA, 56, .inl mn)), (qyd, .inl (cA, 14, .inl fr)), (qye, .inl (cA, 14, .inl tt))]) (va_runV (As := [.int (nI j)]) (rest := []) ⟨hx, hb, hml, hown, hts⟩ (c_X4_season l (D := D) (cA := cA) (H0 := H0) (j := j) (hj := by omega) (hN := by omega) (hP := hP.sub (ws' := [(qy, .inr (4, [.int th, .int (nI N), .ref qya, .ref qyb, .ref qyc, .ref qyd, .ref qye])), (qya, .inl (cA, 14, .inl al)), (qyc, .inl (cA, 56, .inl mn))]) [0, 1, 3] rfl) (hD0 := (hD.sub (ws' := [(qy, .inr (4, [.int th, .int (nI N), .ref qya, .ref qyb, .ref qyc, .ref qyd, .ref qye])), (qya, .inl (cA, 14, .inl al)), (qyc, .inl (cA, 56, .inl mn))]) [0, 1, 3] (by decide) rfl).weaken (fun _ _ _ _ => trivial))) (cwV 1 hts gX4_toldOf_X4_season rfl rfl rfl (by decide +kernel) ⟨Nat.le_of_ble_eq_true rfl, Nat.le_of_ble_eq_true rfl⟩) (cP_V hK (va_recv hK.1 hP (ci := 4) (q0 := 0) rfl rfl)) rfl rfl hl.1 rfl (lv_room (Nat.le_of_ble_eq_true rfl)) dX4_toldOf_109 ⟨by show _ ≤ 1; omega, by show _ ≤ 14; omega⟩) hP hD hS hA [0, 1, 3] [2, 4, 5] rfl (by decide) (by decide) [3, 4, 0, 5, 1, 2] rfl (fun H locs hP hS hz => ?_)
    have hD : va_D A [(qy, .inr (4, [.int th, .int (nI N), .ref qya, .ref qyb, .ref qyc, .ref qyd, .ref qye])), (qya, .inl (cA, 14, .inl al)), (qyb, .inl (cA, 14, .inl be)), (qyc, .inl (cA, 56, .inl mn)), (qyd, .inl (cA, 14, .inl fr)), (qye, .inl (cA, 14, .inl tt))] := hD.adr rfl
    exact WR_zret hAe hx hb hr hlk hH dX4_toldOf_112 (by omega) (by omega) (hP.sub [0, 1, 2, 3, 4, 5] rfl) hS (by rfl) (by first | rfl | simp [mtol, bI])
  · have hl : lv_has ls 3 [(0, .ref qy), (1, .int (nI j)), (2, .int (nI 8))] := hl
    refine lv_tableOut (tgt := 113) hx hb dX4_toldOf_1 (by decide) (by decide) ?_
    refine lv_aload_n hx hb dX4_toldOf_113 rfl (lv_at hl 0 rfl) ?_
    refine lv_iload_n hx hb dX4_toldOf_114 rfl (lv_at hl 1 rfl) ?_
    refine RO_go (va_runV (As := [.int (nI j)]) (rest := []) ⟨hx, hb, hml, hown, hts⟩ (c_X4_isDated l (D := D) (cA := cA) (H0 := H0) (j := j) (hj := by omega) (hP := hP.sub (ws' := [(qy, .inr (4, [.int th, .int (nI N), .ref qya, .ref qyb, .ref qyc, .ref qyd, .ref qye])), (qyd, .inl (cA, 14, .inl fr))]) [0, 4] rfl)) (cwV 1 hts gX4_toldOf_X4_isDated rfl rfl rfl (by decide +kernel) ⟨Nat.le_of_ble_eq_true rfl, Nat.le_of_ble_eq_true rfl⟩) (cP_V hK (va_recv hK.1 hP (ci := 4) (q0 := 0) rfl rfl)) rfl rfl hl.1 rfl (lv_room (Nat.le_of_ble_eq_true rfl)) dX4_toldOf_115 ⟨by show _ ≤ 1; omega, by show _ ≤ 14; omega⟩) ?_
    refine my_ifeq_b (tgt := 125) hx hb dX4_toldOf_118 (by decide) (fun h3 => ?_) (fun h3 => ?_)
    · refine lv_iconst (v := 0) hx hb dX4_toldOf_125 (by decide) ?_
      exact WR_zret hAe hx hb hr hlk hH dX4_toldOf_126 (by omega) (by omega) (hP.sub [0, 1, 2, 3, 4, 5] rfl) hS (by rfl) (by first | rfl | simp [mtol, bI, h3])
    · refine lv_iconst (v := 1) hx hb dX4_toldOf_121 (by decide) ?_
      refine lv_goto (tgt := 126) hx hb dX4_toldOf_122 (by decide) ?_
      exact WR_zret hAe hx hb hr hlk hH dX4_toldOf_126 (by omega) (by omega) (hP.sub [0, 1, 2, 3, 4, 5] rfl) hS (by rfl) (by first | rfl | simp [mtol, bI, h3])
set_option maxHeartbeats 4000000 in
set_option maxRecDepth 100000 in
theorem c_X4_counted (l : Launch) {D : va_G} {cA : ClassId} {H0 : Heap} {qy qya qyb qyc qyd qye N : Nat} {th : Int32} {al be mn fr tt : Nat → Int32} (w : Nat) (hw : w < 7) (hN : N ≤ 14) (hP : va_P D vwCl [(qy, .inr (4, [.int th, .int (nI N), .ref qya, .ref qyb, .ref qyc, .ref qyd, .ref qye])), (qya, .inl (cA, 14, .inl al)), (qyb, .inl (cA, 14, .inl be)), (qyc, .inl (cA, 56, .inl mn)), (qyd, .inl (cA, 14, .inl fr)), (qye, .inl (cA, 14, .inl tt))] H0) (hD0 : va_D (fun _ => True) [(qy, .inr (4, [.int th, .int (nI N), .ref qya, .ref qyb, .ref qyc, .ref qyd, .ref qye])), (qya, .inl (cA, 14, .inl al)), (qyb, .inl (cA, 14, .inl be)), (qyc, .inl (cA, 56, .inl mn)), (qyd, .inl (cA, 14, .inl fr)), (qye, .inl (cA, 14, .inl tt))]) : WR l yX4_counted wsX4_counted 4 87 1 14 [.ref qy, .int (nI w)] D cA H0 (some (.int (mcou N al be mn fr tt w))) [(qy, .inr (4, [.int th, .int (nI N), .ref qya, .ref qyb, .ref qyc, .ref qyd, .ref qye])), (qya, .inl (cA, 14, .inl al)), (qyb, .inl (cA, 14, .inl be)), (qyc, .inl (cA, 56, .inl mn)), (qyd, .inl (cA, 14, .inl fr)), (qye, .inl (cA, 14, .inl tt))] [(qy, .inr (4, [.int th, .int (nI N), .ref qya, .ref qyb, .ref qyc, .ref qyd, .ref qye])), (qya, .inl (cA, 14, .inl al)), (qyb, .inl (cA, 14, .inl be)), (qyc, .inl (cA, 56, .inl mn)), (qyd, .inl (cA, 14, .inl fr)), (qye, .inl (cA, 14, .inl tt))] := by
  refine WR_of (cc := cX4_counted) (maxL := 7) (ret := (some .int)) (by decide) rfl (Nat.le_of_ble_eq_true rfl) ?_
  intro p e s m below meth c ls hx hb hml hr hown hts hlk hin2 hH hK hl
  have hown : s.vm.findClass RX4 = some m.cls := hown
  have hl : lv_has ls 7 [(0, .ref qy), (1, .int (nI w))] := hl
  have hinX4 : ∀ w ∈ wsX40, w ∈ wsX4_counted := by decide +kernel
  have hD := hD0.self (sz := H0.size)
  obtain ⟨A, hAe⟩ : ∃ A, A = va_A [(qy, .inr (4, [.int th, .int (nI N), .ref qya, .ref qyb, .ref qyc, .ref qyd, .ref qye])), (qya, .inl (cA, 14, .inl al)), (qyb, .inl (cA, 14, .inl be)), (qyc, .inl (cA, 56, .inl mn)), (qyd, .inl (cA, 14, .inl fr)), (qye, .inl (cA, 14, .inl tt))] H0.size := ⟨_, rfl⟩
  rw [← hAe] at hD ⊢
  have hA : ∀ q : Nat, H0.size ≤ q → A q := fun q h => by rw [hAe]; exact Or.inr h
  have hS : va_S A H0 H0 [] := va_S.rf
  refine lv_iconst (v := 0) hx hb dX4_counted_0 (by decide) ?_
  refine lv_istore_n (lv' := [(2, .int 0), (0, .ref qy), (1, .int (nI w))]) hx hb dX4_counted_1 rfl hl (by decide) rfl (fun ls hl => ?_)
  refine lv_iload_n hx hb dX4_counted_2 rfl (lv_at hl 2 rfl) ?_
  rcases (show w = 0 ∨ w = 1 ∨ w = 2 ∨ w = 3 ∨ w = 4 ∨ w = 5 ∨ w = 6 by omega) with rfl | rfl | rfl | rfl | rfl | rfl | rfl
  · have hl : lv_has ls 7 [(2, .int 0), (0, .ref qy), (1, .int (nI 0))] := hl
    refine lv_tableIn (tgt := 40) hx hb dX4_counted_3 (by decide) (by decide) rfl (by decide) ?_
    refine lv_aload_n hx hb dX4_counted_40 rfl (lv_at hl 1 rfl) ?_
    refine va_get (D := D) (ci := 4) (v := .int (nI N)) (C := RX4) (T := TX4) (N := 7) hx hb hts hinX4 hown hK.1 hP 0 rfl rfl 1 (by decide) (hts (.fieldLink RX4 29 "CairnShellsModel" "layers" "I") (by decide +kernel)) (fun _ h9 => h9) rfl dX4_counted_41 ?_
    exact WR_zret hAe hx hb hr hlk hH dX4_counted_44 (by omega) (by omega) (hP.sub [0, 1, 2, 3, 4, 5] rfl) hS (by rfl) (by first | rfl | simp [mcou])
  · have hl : lv_has ls 7 [(2, .int 0), (0, .ref qy), (1, .int (nI 1))] := hl
    refine lv_tableIn (tgt := 45) hx hb dX4_counted_3 (by decide) (by decide) rfl (by decide) ?_
    refine lv_aload_n hx hb dX4_counted_45 rfl (lv_at hl 1 rfl) ?_
    refine RQ_go (wr := [(qya, .inl (cA, 14, .inl al)), (qyc, .inl (cA, 56, .inl mn)), (qyd, .inl (cA, 14, .inl fr)), (qye, .inl (cA, 14, .inl tt))]) (va_runV (As := []) (rest := []) ⟨hx, hb, hml, hown, hts⟩ (c_X4_phases l (D := D) (cA := cA) (H0 := H0) (hN := by omega) (hP := hP.sub (ws' := [(qy, .inr (4, [.int th, .int (nI N), .ref qya, .ref qyb, .ref qyc, .ref qyd, .ref qye])), (qyb, .inl (cA, 14, .inl be))]) [0, 2] rfl) (hD0 := (hD.sub (ws' := [(qy, .inr (4, [.int th, .int (nI N), .ref qya, .ref qyb, .ref qyc, .ref qyd, .ref qye])), (qyb, .inl (cA, 14, .inl be))]) [0, 2] (by decide) rfl).weaken (fun _ _ _ _ => trivial))) (cwV 0 hts gX4_counted_X4_phases rfl rfl rfl (by decide +kernel) ⟨Nat.le_of_ble_eq_true rfl, Nat.le_of_ble_eq_true rfl⟩) (cP_V hK (va_recv hK.1 hP (ci := 4) (q0 := 0) rfl rfl)) rfl rfl hl.1 rfl (lv_room (Nat.le_of_ble_eq_true rfl)) dX4_counted_46 ⟨by show _ ≤ 1; omega, by show _ ≤ 14; omega⟩) hP hD hS hA [0, 2] [1, 3, 4, 5] rfl rfl (by decide) (by decide) (fun v9 W9 H locs hp9 hP hD hS hz => ?_)
    obtain ⟨q1, rfl, rfl⟩ := hp9
    have hP : va_P D vwCl [(qy, .inr (4, [.int th, .int (nI N), .ref qya, .ref qyb, .ref qyc, .ref qyd, .ref qye])), (qya, .inl (cA, 14, .inl al)), (qyb, .inl (cA, 14, .inl be)), (qyc, .inl (cA, 56, .inl mn)), (qyd, .inl (cA, 14, .inl fr)), (qye, .inl (cA, 14, .inl tt)), (q1, .inl (cA, 14, .inl (ph1 N be N)))] H := hP.sub [4, 0, 5, 1, 2, 3, 6] rfl
    have hD : va_D A [(qy, .inr (4, [.int th, .int (nI N), .ref qya, .ref qyb, .ref qyc, .ref qyd, .ref qye])), (qya, .inl (cA, 14, .inl al)), (qyb, .inl (cA, 14, .inl be)), (qyc, .inl (cA, 56, .inl mn)), (qyd, .inl (cA, 14, .inl fr)), (qye, .inl (cA, 14, .inl tt)), (q1, .inl (cA, 14, .inl (ph1 N be N)))] := hD.sub [4, 0, 5, 1, 2, 3, 6] (by decide) rfl
    refine W.eq (g2 := F0 m 49 ls [.ref q1]) rfl ?_
    refine lv_astore_n (lv' := [(3, .ref q1), (2, .int 0), (0, .ref qy), (1, .int (nI 1))]) hx hb dX4_counted_49 rfl hl (by decide) rfl (fun ls hl => ?_)
    refine lv_aload_n hx hb dX4_counted_50 rfl (lv_at hl 0 rfl) ?_
    refine va_alen (D := D) hx hb hK.1 hP 6 0 rfl rfl (v := 14) rfl dX4_counted_51 ?_
    refine lv_istore (lv' := [(4, .int 14), (3, .ref q1), (2, .int 0), (0, .ref qy), (1, .int (nI 1))]) hx hb dX4_counted_52 hl (by decide) rfl (fun ls hl => ?_)
    refine lv_iconst (v := 0) hx hb dX4_counted_54 (by decide) ?_
    refine lv_istore (lv' := [(5, .int 0), (4, .int 14), (3, .ref q1), (2, .int 0), (0, .ref qy), (1, .int (nI 1))]) hx hb dX4_counted_55 hl (by decide) rfl (fun ls hl => ?_)
    suffices loop : ∀ (n k : Nat) (y : Int32), k ≤ 14 → 14 < k + n → y = phs (ph1 N be N) k → ∀ (H : Heap) (locs : List Loc), va_P D vwCl [(qy, .inr (4, [.int th, .int (nI N), .ref qya, .ref qyb, .ref qyc, .ref qyd, .ref qye])), (qya, .inl (cA, 14, .inl al)), (qyb, .inl (cA, 14, .inl be)), (qyc, .inl (cA, 56, .inl mn)), (qyd, .inl (cA, 14, .inl fr)), (qye, .inl (cA, 14, .inl tt)), (q1, .inl (cA, 14, .inl (ph1 N be N)))] H → va_D A [(qy, .inr (4, [.int th, .int (nI N), .ref qya, .ref qyb, .ref qyc, .ref qyd, .ref qye])), (qya, .inl (cA, 14, .inl al)), (qyb, .inl (cA, 14, .inl be)), (qyc, .inl (cA, 56, .inl mn)), (qyd, .inl (cA, 14, .inl fr)), (qye, .inl (cA, 14, .inl tt)), (q1, .inl (cA, 14, .inl (ph1 N be N)))] → va_S A H0 H locs → ∀ ls, lv_has ls 7 [(5, .int (nI k)), (4, .int 14), (3, .ref q1), (2, .int y), (0, .ref qy), (1, .int (nI 1))] → W p l e { frames := 4, cells := 1, slots := 14, locals := 87 } s m ([.ref qy, .int (nI 1)] : List Value).toArray below meth c H locs (0 + 1) (0 + 14) (MQ below (wrQ (some (.int (mcou N al be mn fr tt 1))) D [(qy, .inr (4, [.int th, .int (nI N), .ref qya, .ref qyb, .ref qyc, .ref qyd, .ref qye])), (qya, .inl (cA, 14, .inl al)), (qyb, .inl (cA, 14, .inl be)), (qyc, .inl (cA, 56, .inl mn)), (qyd, .inl (cA, 14, .inl fr)), (qye, .inl (cA, 14, .inl tt))] [(qy, .inr (4, [.int th, .int (nI N), .ref qya, .ref qyb, .ref qyc, .ref qyd, .ref qye])), (qya, .inl (cA, 14, .inl al)), (qyb, .inl (cA, 14, .inl be)), (qyc, .inl (cA, 56, .inl mn)), (qyd, .inl (cA, 14, .inl fr)), (qye, .inl (cA, 14, .inl tt))] H0) ([.ref qy, .int (nI 1)] : List Value).toArray s 1 14 A) (F0 m 57 ls []) from loop (14 + 1) 0 0 (by omega) (by omega) (by first | rfl | (simp [phs]; done) | (simp [phs]; done)) _ _ hP hD hS _ (lv_sub hl [0, 1, 2, 3, 4, 5] rfl)
    intro n
    induction n with
    | zero => intro k y hk1 hk2; exact absurd hk2 (by omega)
    | succ n ih57 =>
      intro k y hk57 hn57 ey H locs hP hD hS ls hl
      refine lv_iload hx hb dX4_counted_57 (lv_at hl 0 rfl) ?_
      refine lv_iload hx hb dX4_counted_59 (lv_at hl 1 rfl) ?_
      refine my_geN (x := k) (y := 14) (tgt := 85) hx hb dX4_counted_61 (by decide) (by omega) (by omega) (fun h2 => ?_) (fun h2 => ?_)
      · obtain rfl : k = 14 := by omega
        subst ey
        refine lv_aload_n hx hb dX4_counted_85 rfl (lv_at hl 4 rfl) ?_
        refine va_get (D := D) (ci := 4) (v := .int (nI N)) (C := RX4) (T := TX4) (N := 7) hx hb hts hinX4 hown hK.1 hP 0 rfl rfl 1 (by decide) (hts (.fieldLink RX4 29 "CairnShellsModel" "layers" "I") (by decide +kernel)) (fun _ h9 => h9) rfl dX4_counted_86 ?_
        refine lv_if_ne (tgt := 96) hx hb dX4_counted_89 (by decide) (fun h3 => ?_) (fun h3 => ?_)
        · refine lv_iload_n hx hb dX4_counted_96 rfl (lv_at hl 3 rfl) ?_
          exact WR_zret hAe hx hb hr hlk hH dX4_counted_97 (by omega) (by omega) (hP.sub [0, 1, 2, 3, 4, 5] rfl) hS (by rfl) (by first | rfl | simp [mcou, h2, h3])
        · refine lv_iconst (v := 0) hx hb dX4_counted_92 (by decide) ?_
          refine lv_goto (tgt := 97) hx hb dX4_counted_93 (by decide) ?_
          exact WR_zret hAe hx hb hr hlk hH dX4_counted_97 (by omega) (by omega) (hP.sub [0, 1, 2, 3, 4, 5] rfl) hS (by rfl) (by first | rfl | simp [mcou, h2, h3])
      · refine lv_aload_n hx hb dX4_counted_64 rfl (lv_at hl 2 rfl) ?_
        refine lv_iload hx hb dX4_counted_65 (lv_at hl 0 rfl) ?_
        refine my_iald (D := D) (j := k) hx hb hK hP 6 rfl (by omega) (by decide) dX4_counted_67 ?_
        refine lv_istore (lv' := [(6, .int ((ph1 N be N) k)), (5, .int (nI k)), (4, .int 14), (3, .ref q1), (2, .int y), (0, .ref qy), (1, .int (nI 1))]) hx hb dX4_counted_68 hl (by decide) rfl (fun ls hl => ?_)
        refine lv_iload_n hx hb dX4_counted_70 rfl (lv_at hl 4 rfl) ?_
        refine lv_iload hx hb dX4_counted_71 (lv_at hl 0 rfl) ?_
        refine lv_iconst (v := 1) hx hb dX4_counted_73 (by decide) ?_
        refine lv_iadd hx hb dX4_counted_74 ?_
        refine va_mmax hx hb (hml.trans hl.1.symm) hown (hts (.methodLink RX4 67 Lib.Math.max.name) (by decide +kernel)) (hts (.static Lib.Math.max.name) (by decide +kernel)) (hts (.initialized "java/lang/Math") (by decide +kernel)) (hts (.code Lib.Math.max.name Lib.Math.max.code 2 (some .int)) (by decide +kernel)) (Nat.le_of_ble_eq_true rfl) (Nat.le_of_ble_eq_true rfl) (by show _ ≤ 1; omega) (by show _ ≤ 14; omega) dX4_counted_75 ?_
        refine lv_istore_n (lv' := [(2, .int (imax y (((ph1 N be N) k) + 1))), (6, .int ((ph1 N be N) k)), (5, .int (nI k)), (4, .int 14), (3, .ref q1), (0, .ref qy), (1, .int (nI 1))]) hx hb dX4_counted_78 rfl hl (by decide) rfl (fun ls hl => ?_)
        refine lv_iinc (v := nI (k + 1)) (x := nI k) (lv' := [(5, .int (nI (k + 1))), (2, .int (imax y (((ph1 N be N) k) + 1))), (6, .int ((ph1 N be N) k)), (4, .int 14), (3, .ref q1), (0, .ref qy), (1, .int (nI 1))]) hx hb dX4_counted_79 hl (k := 2) rfl (nI_1 k) (by decide) rfl (fun ls hl => ?_)
        refine lv_goto (tgt := 57) hx hb dX4_counted_82 (by decide) ?_
        exact ih57 (k + 1) (imax y (((ph1 N be N) k) + 1)) (by omega) (by omega) (by subst ey; first | rfl | simp [mcou, phs, imax, h2]) _ _ hP hD hS _ (lv_sub hl [0, 3, 4, 1, 5, 6] rfl)
  · have hl : lv_has ls 7 [(2, .int 0), (0, .ref qy), (1, .int (nI 2))] := hl
    refine lv_tableIn (tgt := 98) hx hb dX4_counted_3 (by decide) (by decide) rfl (by decide) ?_
    refine lv_aload_n hx hb dX4_counted_98 rfl (lv_at hl 1 rfl) ?_
    refine RO_go (va_runV (As := []) (rest := []) ⟨hx, hb, hml, hown, hts⟩ (c_X4_doubtful l (D := D) (cA := cA) (H0 := H0) (hN := by omega) (hP := hP.sub (ws' := [(qy, .inr (4, [.int th, .int (nI N), .ref qya, .ref qyb, .ref qyc, .ref qyd, .ref qye])), (qya, .inl (cA, 14, .inl al)), (qyb, .inl (cA, 14, .inl be)), (qyd, .inl (cA, 14, .inl fr)), (qye, .inl (cA, 14, .inl tt))]) [0, 1, 2, 4, 5] rfl)) (cwV 0 hts gX4_counted_X4_doubtful rfl rfl rfl (by decide +kernel) ⟨Nat.le_of_ble_eq_true rfl, Nat.le_of_ble_eq_true rfl⟩) (cP_V hK (va_recv hK.1 hP (ci := 4) (q0 := 0) rfl rfl)) rfl rfl hl.1 rfl (lv_room (Nat.le_of_ble_eq_true rfl)) dX4_counted_99 ⟨by show _ ≤ 1; omega, by show _ ≤ 14; omega⟩) ?_
    exact WR_zret hAe hx hb hr hlk hH dX4_counted_102 (by omega) (by omega) (hP.sub [0, 1, 2, 3, 4, 5] rfl) hS (by rfl) (by first | rfl | simp [mcou])
  · have hl : lv_has ls 7 [(2, .int 0), (0, .ref qy), (1, .int (nI 3))] := hl
    refine lv_tableIn (tgt := 103) hx hb dX4_counted_3 (by decide) (by decide) rfl (by decide) ?_
    refine lv_iconst (v := 0) hx hb dX4_counted_103 (by decide) ?_
    refine lv_istore_n (lv' := [(3, .int 0), (2, .int 0), (0, .ref qy), (1, .int (nI 3))]) hx hb dX4_counted_104 rfl hl (by decide) rfl (fun ls hl => ?_)
    suffices loop : ∀ (n k : Nat) (y : Nat), k ≤ N → N < k + n → y = ct (dtd fr) k → ∀ (H : Heap) (locs : List Loc), va_P D vwCl [(qy, .inr (4, [.int th, .int (nI N), .ref qya, .ref qyb, .ref qyc, .ref qyd, .ref qye])), (qya, .inl (cA, 14, .inl al)), (qyb, .inl (cA, 14, .inl be)), (qyc, .inl (cA, 56, .inl mn)), (qyd, .inl (cA, 14, .inl fr)), (qye, .inl (cA, 14, .inl tt))] H → va_D A [(qy, .inr (4, [.int th, .int (nI N), .ref qya, .ref qyb, .ref qyc, .ref qyd, .ref qye])), (qya, .inl (cA, 14, .inl al)), (qyb, .inl (cA, 14, .inl be)), (qyc, .inl (cA, 56, .inl mn)), (qyd, .inl (cA, 14, .inl fr)), (qye, .inl (cA, 14, .inl tt))] → va_S A H0 H locs → ∀ ls, lv_has ls 7 [(3, .int (nI k)), (2, .int (nI y)), (0, .ref qy), (1, .int (nI 3))] → W p l e { frames := 4, cells := 1, slots := 14, locals := 87 } s m ([.ref qy, .int (nI 3)] : List Value).toArray below meth c H locs (0) (0) (MQ below (wrQ (some (.int (mcou N al be mn fr tt 3))) D [(qy, .inr (4, [.int th, .int (nI N), .ref qya, .ref qyb, .ref qyc, .ref qyd, .ref qye])), (qya, .inl (cA, 14, .inl al)), (qyb, .inl (cA, 14, .inl be)), (qyc, .inl (cA, 56, .inl mn)), (qyd, .inl (cA, 14, .inl fr)), (qye, .inl (cA, 14, .inl tt))] [(qy, .inr (4, [.int th, .int (nI N), .ref qya, .ref qyb, .ref qyc, .ref qyd, .ref qye])), (qya, .inl (cA, 14, .inl al)), (qyb, .inl (cA, 14, .inl be)), (qyc, .inl (cA, 56, .inl mn)), (qyd, .inl (cA, 14, .inl fr)), (qye, .inl (cA, 14, .inl tt))] H0) ([.ref qy, .int (nI 3)] : List Value).toArray s 1 14 A) (F0 m 105 ls []) from loop (N + 1) 0 0 (by omega) (by omega) (by first | rfl | (simp [ct]; done) | (simp [ct]; done)) _ _ hP hD hS _ (lv_sub hl [0, 1, 2, 3] rfl)
    intro n
    induction n with
    | zero => intro k y hk1 hk2; exact absurd hk2 (by omega)
    | succ n ih105 =>
      intro k y hk105 hn105 ey H locs hP hD hS ls hl
      refine lv_iload_n hx hb dX4_counted_105 rfl (lv_at hl 0 rfl) ?_
      refine lv_aload_n hx hb dX4_counted_106 rfl (lv_at hl 2 rfl) ?_
      refine va_get (D := D) (ci := 4) (v := .int (nI N)) (C := RX4) (T := TX4) (N := 7) hx hb hts hinX4 hown hK.1 hP 0 rfl rfl 1 (by decide) (hts (.fieldLink RX4 29 "CairnShellsModel" "layers" "I") (by decide +kernel)) (fun _ h9 => h9) rfl dX4_counted_107 ?_
      refine my_geN (x := k) (y := N) (tgt := 135) hx hb dX4_counted_110 (by decide) (by omega) (by omega) (fun h4 => ?_) (fun h4 => ?_)
      · obtain rfl : N = k := by omega
        subst ey
        refine lv_iload_n hx hb dX4_counted_135 rfl (lv_at hl 1 rfl) ?_
        exact WR_zret hAe hx hb hr hlk hH dX4_counted_136 (by omega) (by omega) (hP.sub [0, 1, 2, 3, 4, 5] rfl) hS (by rfl) (by first | rfl | simp [mcou, h4])
      · refine lv_iload_n hx hb dX4_counted_113 rfl (lv_at hl 1 rfl) ?_
        refine lv_aload_n hx hb dX4_counted_114 rfl (lv_at hl 2 rfl) ?_
        refine lv_iload_n hx hb dX4_counted_115 rfl (lv_at hl 0 rfl) ?_
        refine RO_go (va_runV (As := [.int (nI k)]) (rest := [.int (nI y)]) ⟨hx, hb, hml, hown, hts⟩ (c_X4_isDated l (D := D) (cA := cA) (H0 := H) (j := k) (hj := by omega) (hP := hP.sub (ws' := [(qy, .inr (4, [.int th, .int (nI N), .ref qya, .ref qyb, .ref qyc, .ref qyd, .ref qye])), (qyd, .inl (cA, 14, .inl fr))]) [0, 4] rfl)) (cwV 1 hts gX4_counted_X4_isDated rfl rfl rfl (by decide +kernel) ⟨Nat.le_of_ble_eq_true rfl, Nat.le_of_ble_eq_true rfl⟩) (cP_V hK (va_recv hK.1 hP (ci := 4) (q0 := 0) rfl rfl)) rfl rfl hl.1 rfl (lv_room (Nat.le_of_ble_eq_true rfl)) dX4_counted_116 ⟨by show _ ≤ 1; omega, by show _ ≤ 14; omega⟩) ?_
        refine my_ifeq_b (tgt := 126) hx hb dX4_counted_119 (by decide) (fun h5 => ?_) (fun h5 => ?_)
        · refine lv_iconst (v := 0) hx hb dX4_counted_126 (by decide) ?_
          refine my_iaddN (x := y) (y := 0) hx hb dX4_counted_127 ?_
          refine lv_istore_n (lv' := [(2, .int (nI (y + 0))), (3, .int (nI k)), (0, .ref qy), (1, .int (nI 3))]) hx hb dX4_counted_128 rfl hl (by decide) rfl (fun ls hl => ?_)
          refine lv_iinc (v := nI (k + 1)) (x := nI k) (lv' := [(3, .int (nI (k + 1))), (2, .int (nI (y + 0))), (0, .ref qy), (1, .int (nI 3))]) hx hb dX4_counted_129 hl (k := 1) rfl (nI_1 k) (by decide) rfl (fun ls hl => ?_)
          refine lv_goto (tgt := 105) hx hb dX4_counted_132 (by decide) ?_
          exact ih105 (k + 1) (y + 0) (by omega) (by omega) (by subst ey; first | rfl | simp [mcou, ct, h4, h5]) _ _ hP hD hS _ (lv_sub hl [0, 1, 2, 3] rfl)
        · refine lv_iconst (v := 1) hx hb dX4_counted_122 (by decide) ?_
          refine lv_goto (tgt := 127) hx hb dX4_counted_123 (by decide) ?_
          refine my_iaddN (x := y) (y := 1) hx hb dX4_counted_127 ?_
          refine lv_istore_n (lv' := [(2, .int (nI (y + 1))), (3, .int (nI k)), (0, .ref qy), (1, .int (nI 3))]) hx hb dX4_counted_128 rfl hl (by decide) rfl (fun ls hl => ?_)
          refine lv_iinc (v := nI (k + 1)) (x := nI k) (lv' := [(3, .int (nI (k + 1))), (2, .int (nI (y + 1))), (0, .ref qy), (1, .int (nI 3))]) hx hb dX4_counted_129 hl (k := 1) rfl (nI_1 k) (by decide) rfl (fun ls hl => ?_)
          refine lv_goto (tgt := 105) hx hb dX4_counted_132 (by decide) ?_
          exact ih105 (k + 1) (y + 1) (by omega) (by omega) (by subst ey; first | rfl | simp [mcou, ct, h4, h5]) _ _ hP hD hS _ (lv_sub hl [0, 1, 2, 3] rfl)
  · have hl : lv_has ls 7 [(2, .int 0), (0, .ref qy), (1, .int (nI 4))] := hl
    refine lv_tableIn (tgt := 137) hx hb dX4_counted_3 (by decide) (by decide) rfl (by decide) ?_
    refine lv_aload_n hx hb dX4_counted_137 rfl (lv_at hl 1 rfl) ?_
    refine RO_go (va_runV (As := []) (rest := []) ⟨hx, hb, hml, hown, hts⟩ (c_X4_pairs l (D := D) (cA := cA) (H0 := H0) (hN := by omega) (hP := hP.sub (ws' := [(qy, .inr (4, [.int th, .int (nI N), .ref qya, .ref qyb, .ref qyc, .ref qyd, .ref qye])), (qyb, .inl (cA, 14, .inl be))]) [0, 2] rfl)) (cwV 0 hts gX4_counted_X4_pairs rfl rfl rfl (by decide +kernel) ⟨Nat.le_of_ble_eq_true rfl, Nat.le_of_ble_eq_true rfl⟩) (cP_V hK (va_recv hK.1 hP (ci := 4) (q0 := 0) rfl rfl)) rfl rfl hl.1 rfl (lv_room (Nat.le_of_ble_eq_true rfl)) dX4_counted_138 ⟨by show _ ≤ 1; omega, by show _ ≤ 14; omega⟩) ?_
    exact WR_zret hAe hx hb hr hlk hH dX4_counted_141 (by omega) (by omega) (hP.sub [0, 1, 2, 3, 4, 5] rfl) hS (by rfl) (by first | rfl | simp [mcou])
  · have hl : lv_has ls 7 [(2, .int 0), (0, .ref qy), (1, .int (nI 5))] := hl
    refine lv_tableIn (tgt := 142) hx hb dX4_counted_3 (by decide) (by decide) rfl (by decide) ?_
    refine lv_iconst (v := 0) hx hb dX4_counted_142 (by decide) ?_
    refine lv_istore_n (lv' := [(3, .int 0), (2, .int 0), (0, .ref qy), (1, .int (nI 5))]) hx hb dX4_counted_143 rfl hl (by decide) rfl (fun ls hl => ?_)
    suffices loop : ∀ (n k : Nat) (y : Nat), k ≤ N → N < k + n → y = srt al k → ∀ (H : Heap) (locs : List Loc), va_P D vwCl [(qy, .inr (4, [.int th, .int (nI N), .ref qya, .ref qyb, .ref qyc, .ref qyd, .ref qye])), (qya, .inl (cA, 14, .inl al)), (qyb, .inl (cA, 14, .inl be)), (qyc, .inl (cA, 56, .inl mn)), (qyd, .inl (cA, 14, .inl fr)), (qye, .inl (cA, 14, .inl tt))] H → va_D A [(qy, .inr (4, [.int th, .int (nI N), .ref qya, .ref qyb, .ref qyc, .ref qyd, .ref qye])), (qya, .inl (cA, 14, .inl al)), (qyb, .inl (cA, 14, .inl be)), (qyc, .inl (cA, 56, .inl mn)), (qyd, .inl (cA, 14, .inl fr)), (qye, .inl (cA, 14, .inl tt))] → va_S A H0 H locs → ∀ ls, lv_has ls 7 [(3, .int (nI k)), (2, .int (nI y)), (0, .ref qy), (1, .int (nI 5))] → W p l e { frames := 4, cells := 1, slots := 14, locals := 87 } s m ([.ref qy, .int (nI 5)] : List Value).toArray below meth c H locs (0) (0) (MQ below (wrQ (some (.int (mcou N al be mn fr tt 5))) D [(qy, .inr (4, [.int th, .int (nI N), .ref qya, .ref qyb, .ref qyc, .ref qyd, .ref qye])), (qya, .inl (cA, 14, .inl al)), (qyb, .inl (cA, 14, .inl be)), (qyc, .inl (cA, 56, .inl mn)), (qyd, .inl (cA, 14, .inl fr)), (qye, .inl (cA, 14, .inl tt))] [(qy, .inr (4, [.int th, .int (nI N), .ref qya, .ref qyb, .ref qyc, .ref qyd, .ref qye])), (qya, .inl (cA, 14, .inl al)), (qyb, .inl (cA, 14, .inl be)), (qyc, .inl (cA, 56, .inl mn)), (qyd, .inl (cA, 14, .inl fr)), (qye, .inl (cA, 14, .inl tt))] H0) ([.ref qy, .int (nI 5)] : List Value).toArray s 1 14 A) (F0 m 144 ls []) from loop (N + 1) 0 0 (by omega) (by omega) (by first | rfl | (simp [srt]; done) | (simp [srt]; done)) _ _ hP hD hS _ (lv_sub hl [0, 1, 2, 3] rfl)
    intro n
    induction n with
    | zero => intro k y hk1 hk2; exact absurd hk2 (by omega)
    | succ n ih144 =>
      intro k y hk144 hn144 ey H locs hP hD hS ls hl
      refine lv_iload_n hx hb dX4_counted_144 rfl (lv_at hl 0 rfl) ?_
      refine lv_aload_n hx hb dX4_counted_145 rfl (lv_at hl 2 rfl) ?_
      refine va_get (D := D) (ci := 4) (v := .int (nI N)) (C := RX4) (T := TX4) (N := 7) hx hb hts hinX4 hown hK.1 hP 0 rfl rfl 1 (by decide) (hts (.fieldLink RX4 29 "CairnShellsModel" "layers" "I") (by decide +kernel)) (fun _ h9 => h9) rfl dX4_counted_146 ?_
      refine my_geN (x := k) (y := N) (tgt := 181) hx hb dX4_counted_149 (by decide) (by omega) (by omega) (fun h6 => ?_) (fun h6 => ?_)
      · obtain rfl : N = k := by omega
        subst ey
        refine lv_iload_n hx hb dX4_counted_181 rfl (lv_at hl 1 rfl) ?_
        exact WR_zret hAe hx hb hr hlk hH dX4_counted_182 (by omega) (by omega) (hP.sub [0, 1, 2, 3, 4, 5] rfl) hS (by rfl) (by first | rfl | simp [mcou, h6])
      · refine lv_iload_n hx hb dX4_counted_152 rfl (lv_at hl 1 rfl) ?_
        refine lv_aload_n hx hb dX4_counted_153 rfl (lv_at hl 2 rfl) ?_
        refine va_get (D := D) (ci := 4) (v := .ref qya) (C := RX4) (T := TX4) (N := 7) hx hb hts hinX4 hown hK.1 hP 0 rfl rfl 2 (by decide) (hts (.fieldLink RX4 9 "CairnShellsModel" "alike" "[I") (by decide +kernel)) (fun _ h9 => h9) rfl dX4_counted_154 ?_
        refine lv_iload_n hx hb dX4_counted_157 rfl (lv_at hl 0 rfl) ?_
        refine my_iald (D := D) (j := k) hx hb hK hP 1 rfl (by omega) (by decide) dX4_counted_158 ?_
        refine lv_iconst (v := 1) hx hb dX4_counted_159 (by decide) ?_
        refine lv_iload_n hx hb dX4_counted_160 rfl (lv_at hl 0 rfl) ?_
        refine lv_ishl hx hb dX4_counted_161 ?_
        refine lv_iconst (v := 1) hx hb dX4_counted_162 (by decide) ?_
        refine lv_isub hx hb dX4_counted_163 ?_
        refine lv_iand hx hb dX4_counted_164 ?_
        refine lv_if_ne (tgt := 172) hx hb dX4_counted_165 (by decide) (fun h7 => ?_) (fun h7 => ?_)
        · refine lv_iconst (v := 0) hx hb dX4_counted_172 (by decide) ?_
          refine my_iaddN (x := y) (y := 0) hx hb dX4_counted_173 ?_
          refine lv_istore_n (lv' := [(2, .int (nI (y + 0))), (3, .int (nI k)), (0, .ref qy), (1, .int (nI 5))]) hx hb dX4_counted_174 rfl hl (by decide) rfl (fun ls hl => ?_)
          refine lv_iinc (v := nI (k + 1)) (x := nI k) (lv' := [(3, .int (nI (k + 1))), (2, .int (nI (y + 0))), (0, .ref qy), (1, .int (nI 5))]) hx hb dX4_counted_175 hl (k := 1) rfl (nI_1 k) (by decide) rfl (fun ls hl => ?_)
          refine lv_goto (tgt := 144) hx hb dX4_counted_178 (by decide) ?_
          exact ih144 (k + 1) (y + 0) (by omega) (by omega) (by subst ey; first | rfl | simp [mcou, srt, h6, h7]) _ _ hP hD hS _ (lv_sub hl [0, 1, 2, 3] rfl)
        · refine lv_iconst (v := 1) hx hb dX4_counted_168 (by decide) ?_
          refine lv_goto (tgt := 173) hx hb dX4_counted_169 (by decide) ?_
          refine my_iaddN (x := y) (y := 1) hx hb dX4_counted_173 ?_
          refine lv_istore_n (lv' := [(2, .int (nI (y + 1))), (3, .int (nI k)), (0, .ref qy), (1, .int (nI 5))]) hx hb dX4_counted_174 rfl hl (by decide) rfl (fun ls hl => ?_)
          refine lv_iinc (v := nI (k + 1)) (x := nI k) (lv' := [(3, .int (nI (k + 1))), (2, .int (nI (y + 1))), (0, .ref qy), (1, .int (nI 5))]) hx hb dX4_counted_175 hl (k := 1) rfl (nI_1 k) (by decide) rfl (fun ls hl => ?_)
          refine lv_goto (tgt := 144) hx hb dX4_counted_178 (by decide) ?_
          exact ih144 (k + 1) (y + 1) (by omega) (by omega) (by subst ey; first | rfl | simp [mcou, srt, h6, h7]) _ _ hP hD hS _ (lv_sub hl [0, 1, 2, 3] rfl)
  · have hl : lv_has ls 7 [(2, .int 0), (0, .ref qy), (1, .int (nI 6))] := hl
    refine lv_tableOut (tgt := 183) hx hb dX4_counted_3 (by decide) (by decide) ?_
    refine lv_iconst (v := 0) hx hb dX4_counted_183 (by decide) ?_
    refine lv_istore_n (lv' := [(3, .int 0), (2, .int 0), (0, .ref qy), (1, .int (nI 6))]) hx hb dX4_counted_184 rfl hl (by decide) rfl (fun ls hl => ?_)
    suffices loop : ∀ (n k : Nat) (y : Int32), k ≤ (4 * N) → (4 * N) < k + n → y = sI mn k → ∀ (H : Heap) (locs : List Loc), va_P D vwCl [(qy, .inr (4, [.int th, .int (nI N), .ref qya, .ref qyb, .ref qyc, .ref qyd, .ref qye])), (qya, .inl (cA, 14, .inl al)), (qyb, .inl (cA, 14, .inl be)), (qyc, .inl (cA, 56, .inl mn)), (qyd, .inl (cA, 14, .inl fr)), (qye, .inl (cA, 14, .inl tt))] H → va_D A [(qy, .inr (4, [.int th, .int (nI N), .ref qya, .ref qyb, .ref qyc, .ref qyd, .ref qye])), (qya, .inl (cA, 14, .inl al)), (qyb, .inl (cA, 14, .inl be)), (qyc, .inl (cA, 56, .inl mn)), (qyd, .inl (cA, 14, .inl fr)), (qye, .inl (cA, 14, .inl tt))] → va_S A H0 H locs → ∀ ls, lv_has ls 7 [(3, .int (nI k)), (2, .int y), (0, .ref qy), (1, .int (nI 6))] → W p l e { frames := 4, cells := 1, slots := 14, locals := 87 } s m ([.ref qy, .int (nI 6)] : List Value).toArray below meth c H locs (0) (0) (MQ below (wrQ (some (.int (mcou N al be mn fr tt 6))) D [(qy, .inr (4, [.int th, .int (nI N), .ref qya, .ref qyb, .ref qyc, .ref qyd, .ref qye])), (qya, .inl (cA, 14, .inl al)), (qyb, .inl (cA, 14, .inl be)), (qyc, .inl (cA, 56, .inl mn)), (qyd, .inl (cA, 14, .inl fr)), (qye, .inl (cA, 14, .inl tt))] [(qy, .inr (4, [.int th, .int (nI N), .ref qya, .ref qyb, .ref qyc, .ref qyd, .ref qye])), (qya, .inl (cA, 14, .inl al)), (qyb, .inl (cA, 14, .inl be)), (qyc, .inl (cA, 56, .inl mn)), (qyd, .inl (cA, 14, .inl fr)), (qye, .inl (cA, 14, .inl tt))] H0) ([.ref qy, .int (nI 6)] : List Value).toArray s 1 14 A) (F0 m 185 ls []) from loop ((4 * N) + 1) 0 0 (by omega) (by omega) (by first | rfl | (simp [sI]; done) | (simp [sI]; done)) _ _ hP hD hS _ (lv_sub hl [0, 1, 2, 3] rfl)
    intro n
    induction n with
    | zero => intro k y hk1 hk2; exact absurd hk2 (by omega)
    | succ n ih185 =>
      intro k y hk185 hn185 ey H locs hP hD hS ls hl
      refine lv_iload_n hx hb dX4_counted_185 rfl (lv_at hl 0 rfl) ?_
      refine lv_iconst (v := 4) hx hb dX4_counted_186 (by decide) ?_
      refine lv_aload_n hx hb dX4_counted_187 rfl (lv_at hl 2 rfl) ?_
      refine va_get (D := D) (ci := 4) (v := .int (nI N)) (C := RX4) (T := TX4) (N := 7) hx hb hts hinX4 hown hK.1 hP 0 rfl rfl 1 (by decide) (hts (.fieldLink RX4 29 "CairnShellsModel" "layers" "I") (by decide +kernel)) (fun _ h9 => h9) rfl dX4_counted_188 ?_
      refine my_imulN (x := 4) (y := N) hx hb dX4_counted_191 ?_
      refine my_geN (x := k) (y := 4 * N) (tgt := 210) hx hb dX4_counted_192 (by decide) (by omega) (by omega) (fun h8 => ?_) (fun h8 => ?_)
      · obtain rfl : k = (4 * N) := by omega
        subst ey
        refine lv_iload_n hx hb dX4_counted_210 rfl (lv_at hl 1 rfl) ?_
        exact WR_zret hAe hx hb hr hlk hH dX4_counted_211 (by omega) (by omega) (hP.sub [0, 1, 2, 3, 4, 5] rfl) hS (by rfl) (by first | rfl | simp [mcou, h8])
      · refine lv_iload_n hx hb dX4_counted_195 rfl (lv_at hl 1 rfl) ?_
        refine lv_aload_n hx hb dX4_counted_196 rfl (lv_at hl 2 rfl) ?_
        refine va_get (D := D) (ci := 4) (v := .ref qyc) (C := RX4) (T := TX4) (N := 7) hx hb hts hinX4 hown hK.1 hP 0 rfl rfl 4 (by decide) (hts (.fieldLink RX4 16 "CairnShellsModel" "sifted" "[I") (by decide +kernel)) (fun _ h9 => h9) rfl dX4_counted_197 ?_
        refine lv_iload_n hx hb dX4_counted_200 rfl (lv_at hl 0 rfl) ?_
        refine my_iald (D := D) (j := k) hx hb hK hP 3 rfl (by omega) (by decide) dX4_counted_201 ?_
        refine lv_iadd hx hb dX4_counted_202 ?_
        refine lv_istore_n (lv' := [(2, .int (y + (mn k))), (3, .int (nI k)), (0, .ref qy), (1, .int (nI 6))]) hx hb dX4_counted_203 rfl hl (by decide) rfl (fun ls hl => ?_)
        refine lv_iinc (v := nI (k + 1)) (x := nI k) (lv' := [(3, .int (nI (k + 1))), (2, .int (y + (mn k))), (0, .ref qy), (1, .int (nI 6))]) hx hb dX4_counted_204 hl (k := 1) rfl (nI_1 k) (by decide) rfl (fun ls hl => ?_)
        refine lv_goto (tgt := 185) hx hb dX4_counted_207 (by decide) ?_
        exact ih185 (k + 1) (y + (mn k)) (by omega) (by omega) (by subst ey; first | rfl | simp [mcou, sI, h8]) _ _ hP hD hS _ (lv_sub hl [0, 1, 2, 3] rfl)
set_option maxHeartbeats 4000000 in
set_option maxRecDepth 100000 in
theorem c_X4_mean (l : Launch) {D : va_G} {cA : ClassId} {H0 : Heap} {qy qya qyb qyc qyd qye N : Nat} {th : Int32} {al be mn fr tt : Nat → Int32} (hN : N ≤ 14) (hP : va_P D vwCl [(qy, .inr (4, [.int th, .int (nI N), .ref qya, .ref qyb, .ref qyc, .ref qyd, .ref qye])), (qya, .inl (cA, 14, .inl al)), (qyb, .inl (cA, 14, .inl be)), (qyc, .inl (cA, 56, .inl mn)), (qyd, .inl (cA, 14, .inl fr)), (qye, .inl (cA, 14, .inl tt))] H0) (hD0 : va_D (fun _ => True) [(qy, .inr (4, [.int th, .int (nI N), .ref qya, .ref qyb, .ref qyc, .ref qyd, .ref qye])), (qya, .inl (cA, 14, .inl al)), (qyb, .inl (cA, 14, .inl be)), (qyc, .inl (cA, 56, .inl mn)), (qyd, .inl (cA, 14, .inl fr)), (qye, .inl (cA, 14, .inl tt))]) : WR l yX4_mean wsX4_mean 2 45 1 14 [.ref qy] D cA H0 (some (.double (mmean N be))) [(qy, .inr (4, [.int th, .int (nI N), .ref qya, .ref qyb, .ref qyc, .ref qyd, .ref qye])), (qya, .inl (cA, 14, .inl al)), (qyb, .inl (cA, 14, .inl be)), (qyc, .inl (cA, 56, .inl mn)), (qyd, .inl (cA, 14, .inl fr)), (qye, .inl (cA, 14, .inl tt))] [(qy, .inr (4, [.int 0, .int (nI N), .ref qya, .ref qyb, .ref qyc, .ref qyd, .ref qye])), (qya, .inl (cA, 14, .inl al)), (qyb, .inl (cA, 14, .inl be)), (qyc, .inl (cA, 56, .inl mn)), (qyd, .inl (cA, 14, .inl fr)), (qye, .inl (cA, 14, .inl tt))] := by
  refine WR_of (cc := cX4_mean) (maxL := 6) (ret := (some .double)) (by decide) rfl (Nat.le_of_ble_eq_true rfl) ?_
  intro p e s m below meth c ls hx hb hml hr hown hts hlk hin2 hH hK hl
  have hown : s.vm.findClass RX4 = some m.cls := hown
  have hl : lv_has ls 6 [(0, .ref qy)] := hl
  have hinX4 : ∀ w ∈ wsX40, w ∈ wsX4_mean := by decide +kernel
  have hD := hD0.self (sz := H0.size)
  obtain ⟨A, hAe⟩ : ∃ A, A = va_A [(qy, .inr (4, [.int th, .int (nI N), .ref qya, .ref qyb, .ref qyc, .ref qyd, .ref qye])), (qya, .inl (cA, 14, .inl al)), (qyb, .inl (cA, 14, .inl be)), (qyc, .inl (cA, 56, .inl mn)), (qyd, .inl (cA, 14, .inl fr)), (qye, .inl (cA, 14, .inl tt))] H0.size := ⟨_, rfl⟩
  rw [← hAe] at hD ⊢
  have hA : ∀ q : Nat, H0.size ≤ q → A q := fun q h => by rw [hAe]; exact Or.inr h
  have hS : va_S A H0 H0 [] := va_S.rf
  refine lv_aload_n hx hb dX4_mean_0 rfl (lv_at hl 0 rfl) ?_
  refine lv_iconst (v := 0) hx hb dX4_mean_1 (by decide) ?_
  refine va_put (D := D) (ci := 4) (v := .int 0) (ty := .int) (C := RX4) (T := TX4) (N := 7) hx hb hts hinX4 tyX4 tyX4_ok nmX4 hown hK.1 hP hD hS 0 rfl rfl 0 (by decide) (hts (.fieldLink RX4 25 "CairnShellsModel" "thrown" "I") (by decide +kernel)) (fun _ h9 => h9) rfl (by decide +kernel) rfl rfl (Nat.le_of_ble_eq_true rfl) dX4_mean_2 (fun H locs hP hD hS => ?_)
  have hP : va_P D vwCl [(qy, .inr (4, [.int 0, .int (nI N), .ref qya, .ref qyb, .ref qyc, .ref qyd, .ref qye])), (qya, .inl (cA, 14, .inl al)), (qyb, .inl (cA, 14, .inl be)), (qyc, .inl (cA, 56, .inl mn)), (qyd, .inl (cA, 14, .inl fr)), (qye, .inl (cA, 14, .inl tt))] H := hP
  have hD : va_D A [(qy, .inr (4, [.int 0, .int (nI N), .ref qya, .ref qyb, .ref qyc, .ref qyd, .ref qye])), (qya, .inl (cA, 14, .inl al)), (qyb, .inl (cA, 14, .inl be)), (qyc, .inl (cA, 56, .inl mn)), (qyd, .inl (cA, 14, .inl fr)), (qye, .inl (cA, 14, .inl tt))] := hD
  refine lv_iconst (v := 0) hx hb dX4_mean_5 (by decide) ?_
  refine lv_istore_n (lv' := [(1, .int 0), (0, .ref qy)]) hx hb dX4_mean_6 rfl hl (by decide) rfl (fun ls hl => ?_)
  refine lv_aload_n hx hb dX4_mean_7 rfl (lv_at hl 1 rfl) ?_
  refine RQ_go (wr := [(qya, .inl (cA, 14, .inl al)), (qyc, .inl (cA, 56, .inl mn)), (qyd, .inl (cA, 14, .inl fr)), (qye, .inl (cA, 14, .inl tt))]) (va_runV (As := []) (rest := []) ⟨hx, hb, hml, hown, hts⟩ (c_X4_phases l (D := D) (cA := cA) (H0 := H) (hN := by omega) (hP := hP.sub (ws' := [(qy, .inr (4, [.int 0, .int (nI N), .ref qya, .ref qyb, .ref qyc, .ref qyd, .ref qye])), (qyb, .inl (cA, 14, .inl be))]) [0, 2] rfl) (hD0 := (hD.sub (ws' := [(qy, .inr (4, [.int 0, .int (nI N), .ref qya, .ref qyb, .ref qyc, .ref qyd, .ref qye])), (qyb, .inl (cA, 14, .inl be))]) [0, 2] (by decide) rfl).weaken (fun _ _ _ _ => trivial))) (cwV 0 hts gX4_mean_X4_phases rfl rfl rfl (by decide +kernel) ⟨Nat.le_of_ble_eq_true rfl, Nat.le_of_ble_eq_true rfl⟩) (cP_V hK (va_recv hK.1 hP (ci := 4) (q0 := 0) rfl rfl)) rfl rfl hl.1 rfl (lv_room (Nat.le_of_ble_eq_true rfl)) dX4_mean_8 ⟨by show _ ≤ 1; omega, by show _ ≤ 14; omega⟩) hP hD hS hA [0, 2] [1, 3, 4, 5] rfl rfl (by decide) (by decide) (fun v9 W9 H locs hp9 hP hD hS hz => ?_)
  obtain ⟨q1, rfl, rfl⟩ := hp9
  have hP : va_P D vwCl [(qy, .inr (4, [.int 0, .int (nI N), .ref qya, .ref qyb, .ref qyc, .ref qyd, .ref qye])), (qya, .inl (cA, 14, .inl al)), (qyb, .inl (cA, 14, .inl be)), (qyc, .inl (cA, 56, .inl mn)), (qyd, .inl (cA, 14, .inl fr)), (qye, .inl (cA, 14, .inl tt)), (q1, .inl (cA, 14, .inl (ph1 N be N)))] H := hP.sub [4, 0, 5, 1, 2, 3, 6] rfl
  have hD : va_D A [(qy, .inr (4, [.int 0, .int (nI N), .ref qya, .ref qyb, .ref qyc, .ref qyd, .ref qye])), (qya, .inl (cA, 14, .inl al)), (qyb, .inl (cA, 14, .inl be)), (qyc, .inl (cA, 56, .inl mn)), (qyd, .inl (cA, 14, .inl fr)), (qye, .inl (cA, 14, .inl tt)), (q1, .inl (cA, 14, .inl (ph1 N be N)))] := hD.sub [4, 0, 5, 1, 2, 3, 6] (by decide) rfl
  refine W.eq (g2 := F0 m 11 ls [.ref q1]) rfl ?_
  refine lv_astore_n (lv' := [(2, .ref q1), (1, .int 0), (0, .ref qy)]) hx hb dX4_mean_11 rfl hl (by decide) rfl (fun ls hl => ?_)
  refine lv_aload_n hx hb dX4_mean_12 rfl (lv_at hl 0 rfl) ?_
  refine va_alen (D := D) hx hb hK.1 hP 6 0 rfl rfl (v := 14) rfl dX4_mean_13 ?_
  refine lv_istore_n (lv' := [(3, .int 14), (2, .ref q1), (1, .int 0), (0, .ref qy)]) hx hb dX4_mean_14 rfl hl (by decide) rfl (fun ls hl => ?_)
  refine lv_iconst (v := 0) hx hb dX4_mean_15 (by decide) ?_
  refine lv_istore (lv' := [(4, .int 0), (3, .int 14), (2, .ref q1), (1, .int 0), (0, .ref qy)]) hx hb dX4_mean_16 hl (by decide) rfl (fun ls hl => ?_)
  suffices loop : ∀ (n k : Nat) (y : Int32), k ≤ 14 → 14 < k + n → y = sI (ph1 N be N) k → ∀ (H : Heap) (locs : List Loc), va_P D vwCl [(qy, .inr (4, [.int 0, .int (nI N), .ref qya, .ref qyb, .ref qyc, .ref qyd, .ref qye])), (qya, .inl (cA, 14, .inl al)), (qyb, .inl (cA, 14, .inl be)), (qyc, .inl (cA, 56, .inl mn)), (qyd, .inl (cA, 14, .inl fr)), (qye, .inl (cA, 14, .inl tt)), (q1, .inl (cA, 14, .inl (ph1 N be N)))] H → va_D A [(qy, .inr (4, [.int 0, .int (nI N), .ref qya, .ref qyb, .ref qyc, .ref qyd, .ref qye])), (qya, .inl (cA, 14, .inl al)), (qyb, .inl (cA, 14, .inl be)), (qyc, .inl (cA, 56, .inl mn)), (qyd, .inl (cA, 14, .inl fr)), (qye, .inl (cA, 14, .inl tt)), (q1, .inl (cA, 14, .inl (ph1 N be N)))] → va_S A H0 H locs → ∀ ls, lv_has ls 6 [(4, .int (nI k)), (3, .int 14), (2, .ref q1), (1, .int y), (0, .ref qy)] → W p l e { frames := 2, cells := 1, slots := 14, locals := 45 } s m ([.ref qy] : List Value).toArray below meth c H locs (0 + 1) (0 + 14) (MQ below (wrQ (some (.double (mmean N be))) D [(qy, .inr (4, [.int th, .int (nI N), .ref qya, .ref qyb, .ref qyc, .ref qyd, .ref qye])), (qya, .inl (cA, 14, .inl al)), (qyb, .inl (cA, 14, .inl be)), (qyc, .inl (cA, 56, .inl mn)), (qyd, .inl (cA, 14, .inl fr)), (qye, .inl (cA, 14, .inl tt))] [(qy, .inr (4, [.int 0, .int (nI N), .ref qya, .ref qyb, .ref qyc, .ref qyd, .ref qye])), (qya, .inl (cA, 14, .inl al)), (qyb, .inl (cA, 14, .inl be)), (qyc, .inl (cA, 56, .inl mn)), (qyd, .inl (cA, 14, .inl fr)), (qye, .inl (cA, 14, .inl tt))] H0) ([.ref qy] : List Value).toArray s 1 14 A) (F0 m 18 ls []) from loop (14 + 1) 0 0 (by omega) (by omega) (by first | rfl | (simp [sI]; done) | (simp [sI]; done)) _ _ hP hD hS _ (lv_sub hl [0, 1, 2, 3, 4] rfl)
  intro n
  induction n with
  | zero => intro k y hk1 hk2; exact absurd hk2 (by omega)
  | succ n ih18 =>
    intro k y hk18 hn18 ey H locs hP hD hS ls hl
    refine lv_iload hx hb dX4_mean_18 (lv_at hl 0 rfl) ?_
    refine lv_iload_n hx hb dX4_mean_20 rfl (lv_at hl 1 rfl) ?_
    refine my_geN (x := k) (y := 14) (tgt := 41) hx hb dX4_mean_21 (by decide) (by omega) (by omega) (fun h2 => ?_) (fun h2 => ?_)
    · obtain rfl : k = 14 := by omega
      subst ey
      refine lv_aload_n hx hb dX4_mean_41 rfl (lv_at hl 4 rfl) ?_
      refine va_get (D := D) (ci := 4) (v := .int (nI N)) (C := RX4) (T := TX4) (N := 7) hx hb hts hinX4 hown hK.1 hP 0 rfl rfl 1 (by decide) (hts (.fieldLink RX4 29 "CairnShellsModel" "layers" "I") (by decide +kernel)) (fun _ h9 => h9) rfl dX4_mean_42 ?_
      refine lv_if_ne (tgt := 52) hx hb dX4_mean_45 (by decide) (fun h3 => ?_) (fun h3 => ?_)
      · refine lv_iload_n hx hb dX4_mean_52 rfl (lv_at hl 3 rfl) ?_
        refine lv_i2d hx hb dX4_mean_53 ?_
        refine lv_aload_n hx hb dX4_mean_54 rfl (lv_at hl 4 rfl) ?_
        refine va_get (D := D) (ci := 4) (v := .int (nI N)) (C := RX4) (T := TX4) (N := 7) hx hb hts hinX4 hown hK.1 hP 0 rfl rfl 1 (by decide) (hts (.fieldLink RX4 29 "CairnShellsModel" "layers" "I") (by decide +kernel)) (fun _ h9 => h9) rfl dX4_mean_55 ?_
        refine lv_i2d hx hb dX4_mean_58 ?_
        refine lv_ddiv hx hb dX4_mean_59 (nonan _ (by assumption)) ?_
        exact WR_dret hAe hx hb hr hlk hH dX4_mean_60 (by omega) (by omega) (hP.sub [0, 1, 2, 3, 4, 5] rfl) hS (by first | rfl | simp [mmean, h2, h3])
      · refine lv_dconst0 hx hb dX4_mean_48 ?_
        refine lv_goto (tgt := 60) hx hb dX4_mean_49 (by decide) ?_
        exact WR_dret hAe hx hb hr hlk hH dX4_mean_60 (by omega) (by omega) (hP.sub [0, 1, 2, 3, 4, 5] rfl) hS (by first | rfl | simp [mmean, h2, h3])
    · refine lv_aload_n hx hb dX4_mean_24 rfl (lv_at hl 2 rfl) ?_
      refine lv_iload hx hb dX4_mean_25 (lv_at hl 0 rfl) ?_
      refine my_iald (D := D) (j := k) hx hb hK hP 6 rfl (by omega) (by decide) dX4_mean_27 ?_
      refine lv_istore (lv' := [(5, .int ((ph1 N be N) k)), (4, .int (nI k)), (3, .int 14), (2, .ref q1), (1, .int y), (0, .ref qy)]) hx hb dX4_mean_28 hl (by decide) rfl (fun ls hl => ?_)
      refine lv_iload_n hx hb dX4_mean_30 rfl (lv_at hl 4 rfl) ?_
      refine lv_iload hx hb dX4_mean_31 (lv_at hl 0 rfl) ?_
      refine lv_iadd hx hb dX4_mean_33 ?_
      refine lv_istore_n (lv' := [(1, .int (y + ((ph1 N be N) k))), (5, .int ((ph1 N be N) k)), (4, .int (nI k)), (3, .int 14), (2, .ref q1), (0, .ref qy)]) hx hb dX4_mean_34 rfl hl (by decide) rfl (fun ls hl => ?_)
      refine lv_iinc (v := nI (k + 1)) (x := nI k) (lv' := [(4, .int (nI (k + 1))), (1, .int (y + ((ph1 N be N) k))), (5, .int ((ph1 N be N) k)), (3, .int 14), (2, .ref q1), (0, .ref qy)]) hx hb dX4_mean_35 hl (k := 2) rfl (nI_1 k) (by decide) rfl (fun ls hl => ?_)
      refine lv_goto (tgt := 18) hx hb dX4_mean_38 (by decide) ?_
      exact ih18 (k + 1) (y + ((ph1 N be N) k)) (by omega) (by omega) (by subst ey; first | rfl | simp [mmean, sI, h2]) _ _ hP hD hS _ (lv_sub hl [0, 3, 4, 1, 5] rfl)
set_option maxHeartbeats 4000000 in
set_option maxRecDepth 100000 in
theorem c_X4_digest (l : Launch) {D : va_G} {cA : ClassId} {H0 : Heap} {qy qya qyb qyc qyd qye N : Nat} {th : Int32} {al be mn fr tt : Nat → Int32} (hN : N ≤ 14) (hex : ∀ k, k < N → ∃ j, j < N ∧ fre be (arL N be k) j = true) (hP : va_P D vwCl [(qy, .inr (4, [.int th, .int (nI N), .ref qya, .ref qyb, .ref qyc, .ref qyd, .ref qye])), (qya, .inl (cA, 14, .inl al)), (qyb, .inl (cA, 14, .inl be)), (qyc, .inl (cA, 56, .inl mn)), (qyd, .inl (cA, 14, .inl fr)), (qye, .inl (cA, 14, .inl tt))] H0) (hD0 : va_D (fun _ => True) [(qy, .inr (4, [.int th, .int (nI N), .ref qya, .ref qyb, .ref qyc, .ref qyd, .ref qye])), (qya, .inl (cA, 14, .inl al)), (qyb, .inl (cA, 14, .inl be)), (qyc, .inl (cA, 56, .inl mn)), (qyd, .inl (cA, 14, .inl fr)), (qye, .inl (cA, 14, .inl tt))]) : WR l yX4_digest wsX4_digest 5 113 133 1862 [.ref qy] D cA H0 (some (.long (mdig N al be mn fr tt))) [(qy, .inr (4, [.int th, .int (nI N), .ref qya, .ref qyb, .ref qyc, .ref qyd, .ref qye])), (qya, .inl (cA, 14, .inl al)), (qyb, .inl (cA, 14, .inl be)), (qyc, .inl (cA, 56, .inl mn)), (qyd, .inl (cA, 14, .inl fr)), (qye, .inl (cA, 14, .inl tt))] [(qy, .inr (4, [.int 0, .int (nI N), .ref qya, .ref qyb, .ref qyc, .ref qyd, .ref qye])), (qya, .inl (cA, 14, .inl al)), (qyb, .inl (cA, 14, .inl be)), (qyc, .inl (cA, 56, .inl mn)), (qyd, .inl (cA, 14, .inl fr)), (qye, .inl (cA, 14, .inl tt))] := by
  refine WR_of (cc := cX4_digest) (maxL := 5) (ret := (some .long)) (by decide) rfl (Nat.le_of_ble_eq_true rfl) ?_
  intro p e s m below meth c ls hx hb hml hr hown hts hlk hin2 hH hK hl
  have hown : s.vm.findClass RX4 = some m.cls := hown
  have hl : lv_has ls 5 [(0, .ref qy)] := hl
  have hinX4 : ∀ w ∈ wsX40, w ∈ wsX4_digest := by decide +kernel
  have hD := hD0.self (sz := H0.size)
  obtain ⟨A, hAe⟩ : ∃ A, A = va_A [(qy, .inr (4, [.int th, .int (nI N), .ref qya, .ref qyb, .ref qyc, .ref qyd, .ref qye])), (qya, .inl (cA, 14, .inl al)), (qyb, .inl (cA, 14, .inl be)), (qyc, .inl (cA, 56, .inl mn)), (qyd, .inl (cA, 14, .inl fr)), (qye, .inl (cA, 14, .inl tt))] H0.size := ⟨_, rfl⟩
  rw [← hAe] at hD ⊢
  have hA : ∀ q : Nat, H0.size ≤ q → A q := fun q h => by rw [hAe]; exact Or.inr h
  have hS : va_S A H0 H0 [] := va_S.rf
  refine lv_aload_n hx hb dX4_digest_0 rfl (lv_at hl 0 rfl) ?_
  refine lv_iconst (v := 0) hx hb dX4_digest_1 (by decide) ?_
  refine va_put (D := D) (ci := 4) (v := .int 0) (ty := .int) (C := RX4) (T := TX4) (N := 7) hx hb hts hinX4 tyX4 tyX4_ok nmX4 hown hK.1 hP hD hS 0 rfl rfl 0 (by decide) (hts (.fieldLink RX4 25 "CairnShellsModel" "thrown" "I") (by decide +kernel)) (fun _ h9 => h9) rfl (by decide +kernel) rfl rfl (Nat.le_of_ble_eq_true rfl) dX4_digest_2 (fun H locs hP hD hS => ?_)
  have hP : va_P D vwCl [(qy, .inr (4, [.int 0, .int (nI N), .ref qya, .ref qyb, .ref qyc, .ref qyd, .ref qye])), (qya, .inl (cA, 14, .inl al)), (qyb, .inl (cA, 14, .inl be)), (qyc, .inl (cA, 56, .inl mn)), (qyd, .inl (cA, 14, .inl fr)), (qye, .inl (cA, 14, .inl tt))] H := hP
  have hD : va_D A [(qy, .inr (4, [.int 0, .int (nI N), .ref qya, .ref qyb, .ref qyc, .ref qyd, .ref qye])), (qya, .inl (cA, 14, .inl al)), (qyb, .inl (cA, 14, .inl be)), (qyc, .inl (cA, 56, .inl mn)), (qyd, .inl (cA, 14, .inl fr)), (qye, .inl (cA, 14, .inl tt))] := hD
  refine lv_ldc2 (v := 1361) hx hb hown (hts (.constantLong RX4 128 (1361)) (by decide +kernel)) dX4_digest_5 ?_
  refine lv_lstore_n (lv' := [(1, .long 1361), (0, .ref qy)]) hx hb dX4_digest_8 rfl hl (by decide) rfl (fun ls hl => ?_)
  refine lv_iconst (v := 0) hx hb dX4_digest_9 (by decide) ?_
  refine lv_istore_n (lv' := [(3, .int 0), (1, .long 1361), (0, .ref qy)]) hx hb dX4_digest_10 rfl hl (by decide) rfl (fun ls hl => ?_)
  suffices loop : ∀ (n k : Nat) (y1 : Int64), k ≤ 7 → 7 < k + n → y1 = mxT (mcou N al be mn fr tt) 1361 k → ∀ (H : Heap) (locs : List Loc), va_P D vwCl [(qy, .inr (4, [.int 0, .int (nI N), .ref qya, .ref qyb, .ref qyc, .ref qyd, .ref qye])), (qya, .inl (cA, 14, .inl al)), (qyb, .inl (cA, 14, .inl be)), (qyc, .inl (cA, 56, .inl mn)), (qyd, .inl (cA, 14, .inl fr)), (qye, .inl (cA, 14, .inl tt))] H → va_D A [(qy, .inr (4, [.int 0, .int (nI N), .ref qya, .ref qyb, .ref qyc, .ref qyd, .ref qye])), (qya, .inl (cA, 14, .inl al)), (qyb, .inl (cA, 14, .inl be)), (qyc, .inl (cA, 56, .inl mn)), (qyd, .inl (cA, 14, .inl fr)), (qye, .inl (cA, 14, .inl tt))] → va_S A H0 H locs → ∀ ls, lv_has ls 5 [(3, .int (nI k)), (1, .long y1), (0, .ref qy)] → W p l e { frames := 5, cells := 133, slots := 1862, locals := 113 } s m ([.ref qy] : List Value).toArray below meth c H locs (0 + k * 1) (0 + k * 14) (MQ below (wrQ (some (.long (mdig N al be mn fr tt))) D [(qy, .inr (4, [.int th, .int (nI N), .ref qya, .ref qyb, .ref qyc, .ref qyd, .ref qye])), (qya, .inl (cA, 14, .inl al)), (qyb, .inl (cA, 14, .inl be)), (qyc, .inl (cA, 56, .inl mn)), (qyd, .inl (cA, 14, .inl fr)), (qye, .inl (cA, 14, .inl tt))] [(qy, .inr (4, [.int 0, .int (nI N), .ref qya, .ref qyb, .ref qyc, .ref qyd, .ref qye])), (qya, .inl (cA, 14, .inl al)), (qyb, .inl (cA, 14, .inl be)), (qyc, .inl (cA, 56, .inl mn)), (qyd, .inl (cA, 14, .inl fr)), (qye, .inl (cA, 14, .inl tt))] H0) ([.ref qy] : List Value).toArray s 133 1862 A) (F0 m 11 ls []) from W.widen (by omega) (by omega) (loop (7 + 1) 0 1361 (by omega) (by omega) (by first | rfl | (simp [mxT]; done) | (simp [mxT]; done)) _ _ hP hD hS _ (lv_sub hl [0, 1, 2] rfl))
  intro n
  induction n with
  | zero => intro k y1 hk1 hk2; exact absurd hk2 (by omega)
  | succ n ih11 =>
    intro k y1 hk11 hn11 ey1 H locs hP hD hS ls hl
    refine lv_iload_n hx hb dX4_digest_11 rfl (lv_at hl 0 rfl) ?_
    refine lv_bipush (v := 7) hx hb dX4_digest_12 (by decide) ?_
    refine my_geN (x := k) (y := 7) (tgt := 36) hx hb dX4_digest_14 (by decide) (by omega) (by omega) (fun h1 => ?_) (fun h1 => ?_)
    · obtain rfl : k = 7 := by omega
      subst ey1
      refine lv_iconst (v := 0) hx hb dX4_digest_36 (by decide) ?_
      refine lv_istore_n (lv' := [(3, .int 0), (1, .long (mxT (mcou N al be mn fr tt) 1361 7)), (0, .ref qy)]) hx hb dX4_digest_37 rfl hl (by decide) rfl (fun ls hl => ?_)
      suffices loop : ∀ (n k : Nat) (y2 : Int64), k ≤ N → N < k + n → y2 = mxT (fun k => nI (arN N be k)) (mxT (mcou N al be mn fr tt) 1361 7) k → ∀ (H : Heap) (locs : List Loc), va_P D vwCl [(qy, .inr (4, [.int 0, .int (nI N), .ref qya, .ref qyb, .ref qyc, .ref qyd, .ref qye])), (qya, .inl (cA, 14, .inl al)), (qyb, .inl (cA, 14, .inl be)), (qyc, .inl (cA, 56, .inl mn)), (qyd, .inl (cA, 14, .inl fr)), (qye, .inl (cA, 14, .inl tt))] H → va_D A [(qy, .inr (4, [.int 0, .int (nI N), .ref qya, .ref qyb, .ref qyc, .ref qyd, .ref qye])), (qya, .inl (cA, 14, .inl al)), (qyb, .inl (cA, 14, .inl be)), (qyc, .inl (cA, 56, .inl mn)), (qyd, .inl (cA, 14, .inl fr)), (qye, .inl (cA, 14, .inl tt))] → va_S A H0 H locs → ∀ ls, lv_has ls 5 [(3, .int (nI k)), (1, .long y2), (0, .ref qy)] → W p l e { frames := 5, cells := 133, slots := 1862, locals := 113 } s m ([.ref qy] : List Value).toArray below meth c H locs (0 + 7 * 1) (0 + 7 * 14) (MQ below (wrQ (some (.long (mdig N al be mn fr tt))) D [(qy, .inr (4, [.int th, .int (nI N), .ref qya, .ref qyb, .ref qyc, .ref qyd, .ref qye])), (qya, .inl (cA, 14, .inl al)), (qyb, .inl (cA, 14, .inl be)), (qyc, .inl (cA, 56, .inl mn)), (qyd, .inl (cA, 14, .inl fr)), (qye, .inl (cA, 14, .inl tt))] [(qy, .inr (4, [.int 0, .int (nI N), .ref qya, .ref qyb, .ref qyc, .ref qyd, .ref qye])), (qya, .inl (cA, 14, .inl al)), (qyb, .inl (cA, 14, .inl be)), (qyc, .inl (cA, 56, .inl mn)), (qyd, .inl (cA, 14, .inl fr)), (qye, .inl (cA, 14, .inl tt))] H0) ([.ref qy] : List Value).toArray s 133 1862 A) (F0 m 38 ls []) from loop (N + 1) 0 (mxT (mcou N al be mn fr tt) 1361 7) (by omega) (by omega) (by first | rfl | (simp [mxT]; done) | (simp [mxT, ey1]; done)) _ _ hP hD hS _ (lv_sub hl [0, 1, 2] rfl)
      intro n
      induction n with
      | zero => intro k y2 hk1 hk2; exact absurd hk2 (by omega)
      | succ n ih38 =>
        intro k y2 hk38 hn38 ey2 H locs hP hD hS ls hl
        refine lv_iload_n hx hb dX4_digest_38 rfl (lv_at hl 0 rfl) ?_
        refine lv_aload_n hx hb dX4_digest_39 rfl (lv_at hl 2 rfl) ?_
        refine va_get (D := D) (ci := 4) (v := .int (nI N)) (C := RX4) (T := TX4) (N := 7) hx hb hts hinX4 hown hK.1 hP 0 rfl rfl 1 (by decide) (hts (.fieldLink RX4 29 "CairnShellsModel" "layers" "I") (by decide +kernel)) (fun _ h9 => h9) rfl dX4_digest_40 ?_
        refine my_geN (x := k) (y := N) (tgt := 65) hx hb dX4_digest_43 (by decide) (by omega) (by omega) (fun h2 => ?_) (fun h2 => ?_)
        · obtain rfl : N = k := by omega
          subst ey2
          refine lv_iconst (v := 0) hx hb dX4_digest_65 (by decide) ?_
          refine lv_istore_n (lv' := [(3, .int 0), (1, .long (mxT (fun k => nI (arN N be k)) (mxT (mcou N al be mn fr tt) 1361 7) N)), (0, .ref qy)]) hx hb dX4_digest_66 rfl hl (by decide) rfl (fun ls hl => ?_)
          suffices loop : ∀ (n k : Nat) (y3 : Int64), k ≤ N → N < k + n → y3 = mxM N al be mn fr tt (mxT (fun k => nI (arN N be k)) (mxT (mcou N al be mn fr tt) 1361 7) N) k → ∀ (H : Heap) (locs : List Loc), va_P D vwCl [(qy, .inr (4, [.int 0, .int (nI N), .ref qya, .ref qyb, .ref qyc, .ref qyd, .ref qye])), (qya, .inl (cA, 14, .inl al)), (qyb, .inl (cA, 14, .inl be)), (qyc, .inl (cA, 56, .inl mn)), (qyd, .inl (cA, 14, .inl fr)), (qye, .inl (cA, 14, .inl tt))] H → va_D A [(qy, .inr (4, [.int 0, .int (nI N), .ref qya, .ref qyb, .ref qyc, .ref qyd, .ref qye])), (qya, .inl (cA, 14, .inl al)), (qyb, .inl (cA, 14, .inl be)), (qyc, .inl (cA, 56, .inl mn)), (qyd, .inl (cA, 14, .inl fr)), (qye, .inl (cA, 14, .inl tt))] → va_S A H0 H locs → ∀ ls, lv_has ls 5 [(3, .int (nI k)), (1, .long y3), (0, .ref qy)] → W p l e { frames := 5, cells := 133, slots := 1862, locals := 113 } s m ([.ref qy] : List Value).toArray below meth c H locs ((0 + 7 * 1) + k * 9) ((0 + 7 * 14) + k * 126) (MQ below (wrQ (some (.long (mdig N al be mn fr tt))) D [(qy, .inr (4, [.int th, .int (nI N), .ref qya, .ref qyb, .ref qyc, .ref qyd, .ref qye])), (qya, .inl (cA, 14, .inl al)), (qyb, .inl (cA, 14, .inl be)), (qyc, .inl (cA, 56, .inl mn)), (qyd, .inl (cA, 14, .inl fr)), (qye, .inl (cA, 14, .inl tt))] [(qy, .inr (4, [.int 0, .int (nI N), .ref qya, .ref qyb, .ref qyc, .ref qyd, .ref qye])), (qya, .inl (cA, 14, .inl al)), (qyb, .inl (cA, 14, .inl be)), (qyc, .inl (cA, 56, .inl mn)), (qyd, .inl (cA, 14, .inl fr)), (qye, .inl (cA, 14, .inl tt))] H0) ([.ref qy] : List Value).toArray s 133 1862 A) (F0 m 67 ls []) from W.widen (by omega) (by omega) (loop (N + 1) 0 (mxT (fun k => nI (arN N be k)) (mxT (mcou N al be mn fr tt) 1361 7) N) (by omega) (by omega) (by first | rfl | (simp [mxM]; done) | (simp [mxM, ey1, ey2]; done)) _ _ hP hD hS _ (lv_sub hl [0, 1, 2] rfl))
          intro n
          induction n with
          | zero => intro k y3 hk1 hk2; exact absurd hk2 (by omega)
          | succ n ih67 =>
            intro k y3 hk67 hn67 ey3 H locs hP hD hS ls hl
            refine lv_iload_n hx hb dX4_digest_67 rfl (lv_at hl 0 rfl) ?_
            refine lv_aload_n hx hb dX4_digest_68 rfl (lv_at hl 2 rfl) ?_
            refine va_get (D := D) (ci := 4) (v := .int (nI N)) (C := RX4) (T := TX4) (N := 7) hx hb hts hinX4 hown hK.1 hP 0 rfl rfl 1 (by decide) (hts (.fieldLink RX4 29 "CairnShellsModel" "layers" "I") (by decide +kernel)) (fun _ h9 => h9) rfl dX4_digest_69 ?_
            refine my_geN (x := k) (y := N) (tgt := 156) hx hb dX4_digest_72 (by decide) (by omega) (by omega) (fun h3 => ?_) (fun h3 => ?_)
            · obtain rfl : N = k := by omega
              subst ey3
              refine lv_lload_n hx hb dX4_digest_156 rfl (lv_at hl 1 rfl) ?_
              exact WR_lret hAe hx hb hr hlk hH dX4_digest_157 (by omega) (by omega) (hP.sub [0, 1, 2, 3, 4, 5] rfl) hS (by first | rfl | simp [mdig, h1, h2, h3])
            · refine lv_iconst (v := 0) hx hb dX4_digest_75 (by decide) ?_
              refine lv_istore (lv' := [(4, .int 0), (3, .int (nI k)), (1, .long y3), (0, .ref qy)]) hx hb dX4_digest_76 hl (by decide) rfl (fun ls hl => ?_)
              suffices loop : ∀ (n u : Nat) (y4 : Int64), u ≤ 9 → 9 < u + n → y4 = mxT (mtol N al be mn fr tt k) y3 u → ∀ (H : Heap) (locs : List Loc), va_P D vwCl [(qy, .inr (4, [.int 0, .int (nI N), .ref qya, .ref qyb, .ref qyc, .ref qyd, .ref qye])), (qya, .inl (cA, 14, .inl al)), (qyb, .inl (cA, 14, .inl be)), (qyc, .inl (cA, 56, .inl mn)), (qyd, .inl (cA, 14, .inl fr)), (qye, .inl (cA, 14, .inl tt))] H → va_D A [(qy, .inr (4, [.int 0, .int (nI N), .ref qya, .ref qyb, .ref qyc, .ref qyd, .ref qye])), (qya, .inl (cA, 14, .inl al)), (qyb, .inl (cA, 14, .inl be)), (qyc, .inl (cA, 56, .inl mn)), (qyd, .inl (cA, 14, .inl fr)), (qye, .inl (cA, 14, .inl tt))] → va_S A H0 H locs → ∀ ls, lv_has ls 5 [(4, .int (nI u)), (3, .int (nI k)), (1, .long y4), (0, .ref qy)] → W p l e { frames := 5, cells := 133, slots := 1862, locals := 113 } s m ([.ref qy] : List Value).toArray below meth c H locs (((0 + 7 * 1) + k * 9) + u * 1) (((0 + 7 * 14) + k * 126) + u * 14) (MQ below (wrQ (some (.long (mdig N al be mn fr tt))) D [(qy, .inr (4, [.int th, .int (nI N), .ref qya, .ref qyb, .ref qyc, .ref qyd, .ref qye])), (qya, .inl (cA, 14, .inl al)), (qyb, .inl (cA, 14, .inl be)), (qyc, .inl (cA, 56, .inl mn)), (qyd, .inl (cA, 14, .inl fr)), (qye, .inl (cA, 14, .inl tt))] [(qy, .inr (4, [.int 0, .int (nI N), .ref qya, .ref qyb, .ref qyc, .ref qyd, .ref qye])), (qya, .inl (cA, 14, .inl al)), (qyb, .inl (cA, 14, .inl be)), (qyc, .inl (cA, 56, .inl mn)), (qyd, .inl (cA, 14, .inl fr)), (qye, .inl (cA, 14, .inl tt))] H0) ([.ref qy] : List Value).toArray s 133 1862 A) (F0 m 78 ls []) from W.widen (by omega) (by omega) (loop (9 + 1) 0 y3 (by omega) (by omega) (by first | rfl | (simp [mxT]; done) | (simp [mxT, ey1, ey2, ey3]; done)) _ _ hP hD hS _ (lv_sub hl [0, 1, 2, 3] rfl))
              intro n
              induction n with
              | zero => intro u y4 hk1 hk2; exact absurd hk2 (by omega)
              | succ n ih78 =>
                intro u y4 hk78 hn78 ey4 H locs hP hD hS ls hl
                refine lv_iload hx hb dX4_digest_78 (lv_at hl 0 rfl) ?_
                refine lv_bipush (v := 9) hx hb dX4_digest_80 (by decide) ?_
                refine my_geN (x := u) (y := 9) (tgt := 106) hx hb dX4_digest_82 (by decide) (by omega) (by omega) (fun h4 => ?_) (fun h4 => ?_)
                · obtain rfl : u = 9 := by omega
                  subst ey4
                  refine lv_iconst (v := 0) hx hb dX4_digest_106 (by decide) ?_
                  refine lv_istore (lv' := [(4, .int 0), (3, .int (nI k)), (1, .long (mxT (mtol N al be mn fr tt k) y3 9)), (0, .ref qy)]) hx hb dX4_digest_107 hl (by decide) rfl (fun ls hl => ?_)
                  suffices loop : ∀ (n u2 : Nat) (y5 : Int64), u2 ≤ 4 → 4 < u2 + n → y5 = mxT (fun kd => mA mn (al k) kd N) (mxT (mtol N al be mn fr tt k) y3 9) u2 → ∀ (H : Heap) (locs : List Loc), va_P D vwCl [(qy, .inr (4, [.int 0, .int (nI N), .ref qya, .ref qyb, .ref qyc, .ref qyd, .ref qye])), (qya, .inl (cA, 14, .inl al)), (qyb, .inl (cA, 14, .inl be)), (qyc, .inl (cA, 56, .inl mn)), (qyd, .inl (cA, 14, .inl fr)), (qye, .inl (cA, 14, .inl tt))] H → va_D A [(qy, .inr (4, [.int 0, .int (nI N), .ref qya, .ref qyb, .ref qyc, .ref qyd, .ref qye])), (qya, .inl (cA, 14, .inl al)), (qyb, .inl (cA, 14, .inl be)), (qyc, .inl (cA, 56, .inl mn)), (qyd, .inl (cA, 14, .inl fr)), (qye, .inl (cA, 14, .inl tt))] → va_S A H0 H locs → ∀ ls, lv_has ls 5 [(4, .int (nI u2)), (3, .int (nI k)), (1, .long y5), (0, .ref qy)] → W p l e { frames := 5, cells := 133, slots := 1862, locals := 113 } s m ([.ref qy] : List Value).toArray below meth c H locs (((0 + 7 * 1) + k * 9) + 9 * 1) (((0 + 7 * 14) + k * 126) + 9 * 14) (MQ below (wrQ (some (.long (mdig N al be mn fr tt))) D [(qy, .inr (4, [.int th, .int (nI N), .ref qya, .ref qyb, .ref qyc, .ref qyd, .ref qye])), (qya, .inl (cA, 14, .inl al)), (qyb, .inl (cA, 14, .inl be)), (qyc, .inl (cA, 56, .inl mn)), (qyd, .inl (cA, 14, .inl fr)), (qye, .inl (cA, 14, .inl tt))] [(qy, .inr (4, [.int 0, .int (nI N), .ref qya, .ref qyb, .ref qyc, .ref qyd, .ref qye])), (qya, .inl (cA, 14, .inl al)), (qyb, .inl (cA, 14, .inl be)), (qyc, .inl (cA, 56, .inl mn)), (qyd, .inl (cA, 14, .inl fr)), (qye, .inl (cA, 14, .inl tt))] H0) ([.ref qy] : List Value).toArray s 133 1862 A) (F0 m 109 ls []) from loop (4 + 1) 0 (mxT (mtol N al be mn fr tt k) y3 9) (by omega) (by omega) (by first | rfl | (simp [mxT]; done) | (simp [mxT, ey1, ey2, ey3, ey4]; done)) _ _ hP hD hS _ (lv_sub hl [0, 1, 2, 3] rfl)
                  intro n
                  induction n with
                  | zero => intro u2 y5 hk1 hk2; exact absurd hk2 (by omega)
                  | succ n ih109 =>
                    intro u2 y5 hk109 hn109 ey5 H locs hP hD hS ls hl
                    refine lv_iload hx hb dX4_digest_109 (lv_at hl 0 rfl) ?_
                    refine lv_iconst (v := 4) hx hb dX4_digest_111 (by decide) ?_
                    refine my_geN (x := u2) (y := 4) (tgt := 136) hx hb dX4_digest_112 (by decide) (by omega) (by omega) (fun h5 => ?_) (fun h5 => ?_)
                    · obtain rfl : u2 = 4 := by omega
                      subst ey5
                      refine lv_lload_n hx hb dX4_digest_136 rfl (lv_at hl 2 rfl) ?_
                      refine lv_ldc2 (v := 31) hx hb hown (hts (.constantLong RX4 130 (31)) (by decide +kernel)) dX4_digest_137 ?_
                      refine lv_lmul hx hb dX4_digest_140 ?_
                      refine lv_aload_n hx hb dX4_digest_141 rfl (lv_at hl 3 rfl) ?_
                      refine va_get (D := D) (ci := 4) (v := .ref qyb) (C := RX4) (T := TX4) (N := 7) hx hb hts hinX4 hown hK.1 hP 0 rfl rfl 3 (by decide) (hts (.fieldLink RX4 13 "CairnShellsModel" "beneath" "[I") (by decide +kernel)) (fun _ h9 => h9) rfl dX4_digest_142 ?_
                      refine lv_iload_n hx hb dX4_digest_145 rfl (lv_at hl 1 rfl) ?_
                      refine my_iald (D := D) (j := k) hx hb hK hP 2 rfl (by omega) (by decide) dX4_digest_146 ?_
                      refine lv_i2l (v := (be k).toInt64) hx hb dX4_digest_147 rfl ?_
                      refine lv_ladd hx hb dX4_digest_148 ?_
                      refine lv_lstore_n (lv' := [(1, .long (((mxT (fun kd => mA mn (al k) kd N) (mxT (mtol N al be mn fr tt k) y3 9) 4) * 31) + ((be k).toInt64))), (4, .int (nI 4)), (3, .int (nI k)), (0, .ref qy)]) hx hb dX4_digest_149 rfl hl (by decide) rfl (fun ls hl => ?_)
                      refine lv_iinc (v := nI (k + 1)) (x := nI k) (lv' := [(3, .int (nI (k + 1))), (1, .long (((mxT (fun kd => mA mn (al k) kd N) (mxT (mtol N al be mn fr tt k) y3 9) 4) * 31) + ((be k).toInt64))), (4, .int (nI 4)), (0, .ref qy)]) hx hb dX4_digest_150 hl (k := 2) rfl (nI_1 k) (by decide) rfl (fun ls hl => ?_)
                      refine lv_goto (tgt := 67) hx hb dX4_digest_153 (by decide) ?_
                      exact W.widen (by omega) (by omega) (ih67 (k + 1) (((mxT (fun kd => mA mn (al k) kd N) (mxT (mtol N al be mn fr tt k) y3 9) 4) * 31) + ((be k).toInt64)) (by omega) (by omega) (by subst ey3; rfl) _ _ hP hD hS _ (lv_sub hl [0, 1, 3] rfl))
                    · refine lv_lload_n hx hb dX4_digest_115 rfl (lv_at hl 2 rfl) ?_
                      refine lv_ldc2 (v := 31) hx hb hown (hts (.constantLong RX4 130 (31)) (by decide +kernel)) dX4_digest_116 ?_
                      refine lv_lmul hx hb dX4_digest_119 ?_
                      refine lv_aload_n hx hb dX4_digest_120 rfl (lv_at hl 3 rfl) ?_
                      refine lv_iload_n hx hb dX4_digest_121 rfl (lv_at hl 1 rfl) ?_
                      refine lv_iload hx hb dX4_digest_122 (lv_at hl 0 rfl) ?_
                      refine RO_go (va_runV (As := [.int (nI k), .int (nI u2)]) (rest := [.long (y5 * 31)]) ⟨hx, hb, hml, hown, hts⟩ (c_X4_all l (D := D) (cA := cA) (H0 := H) (j := k) (kd := u2) (hj := by omega) (hkd := by omega) (hN := by omega) (hP := hP.sub (ws' := [(qy, .inr (4, [.int 0, .int (nI N), .ref qya, .ref qyb, .ref qyc, .ref qyd, .ref qye])), (qya, .inl (cA, 14, .inl al)), (qyc, .inl (cA, 56, .inl mn))]) [0, 1, 3] rfl)) (cwV 2 hts gX4_digest_X4_all rfl rfl rfl (by decide +kernel) ⟨Nat.le_of_ble_eq_true rfl, Nat.le_of_ble_eq_true rfl⟩) (cP_V hK (va_recv hK.1 hP (ci := 4) (q0 := 0) rfl rfl)) rfl rfl hl.1 rfl (lv_room (Nat.le_of_ble_eq_true rfl)) dX4_digest_124 ⟨by show _ ≤ 133; omega, by show _ ≤ 1862; omega⟩) ?_
                      refine lv_i2l (v := (mA mn (al k) u2 N).toInt64) hx hb dX4_digest_127 rfl ?_
                      refine lv_ladd hx hb dX4_digest_128 ?_
                      refine lv_lstore_n (lv' := [(1, .long ((y5 * 31) + ((mA mn (al k) u2 N).toInt64))), (4, .int (nI u2)), (3, .int (nI k)), (0, .ref qy)]) hx hb dX4_digest_129 rfl hl (by decide) rfl (fun ls hl => ?_)
                      refine lv_iinc (v := nI (u2 + 1)) (x := nI u2) (lv' := [(4, .int (nI (u2 + 1))), (1, .long ((y5 * 31) + ((mA mn (al k) u2 N).toInt64))), (3, .int (nI k)), (0, .ref qy)]) hx hb dX4_digest_130 hl (k := 1) rfl (nI_1 u2) (by decide) rfl (fun ls hl => ?_)
                      refine lv_goto (tgt := 109) hx hb dX4_digest_133 (by decide) ?_
                      exact ih109 (u2 + 1) ((y5 * 31) + ((mA mn (al k) u2 N).toInt64)) (by omega) (by omega) (by subst ey5; first | rfl | simp [mdig, mxT, h1, h2, h3, h4, h5]) _ _ hP hD hS _ (lv_sub hl [0, 2, 1, 3] rfl)
                · refine lv_lload_n hx hb dX4_digest_85 rfl (lv_at hl 2 rfl) ?_
                  refine lv_ldc2 (v := 31) hx hb hown (hts (.constantLong RX4 130 (31)) (by decide +kernel)) dX4_digest_86 ?_
                  refine lv_lmul hx hb dX4_digest_89 ?_
                  refine lv_aload_n hx hb dX4_digest_90 rfl (lv_at hl 3 rfl) ?_
                  refine lv_iload_n hx hb dX4_digest_91 rfl (lv_at hl 1 rfl) ?_
                  refine lv_iload hx hb dX4_digest_92 (lv_at hl 0 rfl) ?_
                  refine WR_go (ws' := [(qy, .inr (4, [.int 0, .int (nI N), .ref qya, .ref qyb, .ref qyc, .ref qyd, .ref qye])), (qya, .inl (cA, 14, .inl al)), (qyb, .inl (cA, 14, .inl be)), (qyc, .inl (cA, 56, .inl mn)), (qyd, .inl (cA, 14, .inl fr)), (qye, .inl (cA, 14, .inl tt))]) (va_runV (As := [.int (nI k), .int (nI u)]) (rest := [.long (y4 * 31)]) ⟨hx, hb, hml, hown, hts⟩ (c_X4_toldOf l (D := D) (cA := cA) (H0 := H) (j := k) (w := u) (hj := by omega) (hw := by omega) (hN := by omega) (hP := hP.sub (ws' := [(qy, .inr (4, [.int 0, .int (nI N), .ref qya, .ref qyb, .ref qyc, .ref qyd, .ref qye])), (qya, .inl (cA, 14, .inl al)), (qyb, .inl (cA, 14, .inl be)), (qyc, .inl (cA, 56, .inl mn)), (qyd, .inl (cA, 14, .inl fr)), (qye, .inl (cA, 14, .inl tt))]) [0, 1, 2, 3, 4, 5] rfl) (hD0 := (hD.sub (ws' := [(qy, .inr (4, [.int 0, .int (nI N), .ref qya, .ref qyb, .ref qyc, .ref qyd, .ref qye])), (qya, .inl (cA, 14, .inl al)), (qyb, .inl (cA, 14, .inl be)), (qyc, .inl (cA, 56, .inl mn)), (qyd, .inl (cA, 14, .inl fr)), (qye, .inl (cA, 14, .inl tt))]) [0, 1, 2, 3, 4, 5] (by decide) rfl).weaken (fun _ _ _ _ => trivial))) (cwV 2 hts gX4_digest_X4_toldOf rfl rfl rfl (by decide +kernel) ⟨Nat.le_of_ble_eq_true rfl, Nat.le_of_ble_eq_true rfl⟩) (cP_V hK (va_recv hK.1 hP (ci := 4) (q0 := 0) rfl rfl)) rfl rfl hl.1 rfl (lv_room (Nat.le_of_ble_eq_true rfl)) dX4_digest_94 ⟨by show _ ≤ 133; omega, by show _ ≤ 1862; omega⟩) hP hD hS hA [0, 1, 2, 3, 4, 5] [] rfl (by decide) (by decide) [0, 1, 2, 3, 4, 5] rfl (fun H locs hP hS hz => ?_)
                  have hD : va_D A [(qy, .inr (4, [.int 0, .int (nI N), .ref qya, .ref qyb, .ref qyc, .ref qyd, .ref qye])), (qya, .inl (cA, 14, .inl al)), (qyb, .inl (cA, 14, .inl be)), (qyc, .inl (cA, 56, .inl mn)), (qyd, .inl (cA, 14, .inl fr)), (qye, .inl (cA, 14, .inl tt))] := hD.adr rfl
                  refine lv_i2l (v := (mtol N al be mn fr tt k u).toInt64) hx hb dX4_digest_97 rfl ?_
                  refine lv_ladd hx hb dX4_digest_98 ?_
                  refine lv_lstore_n (lv' := [(1, .long ((y4 * 31) + ((mtol N al be mn fr tt k u).toInt64))), (4, .int (nI u)), (3, .int (nI k)), (0, .ref qy)]) hx hb dX4_digest_99 rfl hl (by decide) rfl (fun ls hl => ?_)
                  refine lv_iinc (v := nI (u + 1)) (x := nI u) (lv' := [(4, .int (nI (u + 1))), (1, .long ((y4 * 31) + ((mtol N al be mn fr tt k u).toInt64))), (3, .int (nI k)), (0, .ref qy)]) hx hb dX4_digest_100 hl (k := 1) rfl (nI_1 u) (by decide) rfl (fun ls hl => ?_)
                  refine lv_goto (tgt := 78) hx hb dX4_digest_103 (by decide) ?_
                  exact W.widen (by omega) (by omega) (ih78 (u + 1) ((y4 * 31) + ((mtol N al be mn fr tt k u).toInt64)) (by omega) (by omega) (by subst ey4; first | rfl | simp [mdig, mxT, h1, h2, h3, h4]) _ _ hP hD hS _ (lv_sub hl [0, 2, 1, 3] rfl))
        · refine lv_lload_n hx hb dX4_digest_46 rfl (lv_at hl 1 rfl) ?_
          refine lv_ldc2 (v := 31) hx hb hown (hts (.constantLong RX4 130 (31)) (by decide +kernel)) dX4_digest_47 ?_
          refine lv_lmul hx hb dX4_digest_50 ?_
          refine lv_aload_n hx hb dX4_digest_51 rfl (lv_at hl 2 rfl) ?_
          refine lv_iload_n hx hb dX4_digest_52 rfl (lv_at hl 0 rfl) ?_
          refine RO_go (va_runV (As := [.int (nI k)]) (rest := [.long (y2 * 31)]) ⟨hx, hb, hml, hown, hts⟩ (c_X4_orderAt l (D := D) (cA := cA) (H0 := H) (pl := k) (hpl := by omega) (hN := by omega) (hex := fun k9 hk9 => hex k9 (by omega)) (hP := hP.sub (ws' := [(qy, .inr (4, [.int 0, .int (nI N), .ref qya, .ref qyb, .ref qyc, .ref qyd, .ref qye])), (qyb, .inl (cA, 14, .inl be))]) [0, 2] rfl)) (cwV 1 hts gX4_digest_X4_orderAt rfl rfl rfl (by decide +kernel) ⟨Nat.le_of_ble_eq_true rfl, Nat.le_of_ble_eq_true rfl⟩) (cP_V hK (va_recv hK.1 hP (ci := 4) (q0 := 0) rfl rfl)) rfl rfl hl.1 rfl (lv_room (Nat.le_of_ble_eq_true rfl)) dX4_digest_53 ⟨by show _ ≤ 133; omega, by show _ ≤ 1862; omega⟩) ?_
          refine lv_i2l (v := (nI (arN N be k)).toInt64) hx hb dX4_digest_56 rfl ?_
          refine lv_ladd hx hb dX4_digest_57 ?_
          refine lv_lstore_n (lv' := [(1, .long ((y2 * 31) + ((nI (arN N be k)).toInt64))), (3, .int (nI k)), (0, .ref qy)]) hx hb dX4_digest_58 rfl hl (by decide) rfl (fun ls hl => ?_)
          refine lv_iinc (v := nI (k + 1)) (x := nI k) (lv' := [(3, .int (nI (k + 1))), (1, .long ((y2 * 31) + ((nI (arN N be k)).toInt64))), (0, .ref qy)]) hx hb dX4_digest_59 hl (k := 1) rfl (nI_1 k) (by decide) rfl (fun ls hl => ?_)
          refine lv_goto (tgt := 38) hx hb dX4_digest_62 (by decide) ?_
          exact ih38 (k + 1) ((y2 * 31) + ((nI (arN N be k)).toInt64)) (by omega) (by omega) (by subst ey2; first | rfl | simp [mdig, mxT, h1, h2]) _ _ hP hD hS _ (lv_sub hl [0, 1, 2] rfl)
    · refine lv_lload_n hx hb dX4_digest_17 rfl (lv_at hl 1 rfl) ?_
      refine lv_ldc2 (v := 31) hx hb hown (hts (.constantLong RX4 130 (31)) (by decide +kernel)) dX4_digest_18 ?_
      refine lv_lmul hx hb dX4_digest_21 ?_
      refine lv_aload_n hx hb dX4_digest_22 rfl (lv_at hl 2 rfl) ?_
      refine lv_iload_n hx hb dX4_digest_23 rfl (lv_at hl 0 rfl) ?_
      refine WR_go (ws' := [(qy, .inr (4, [.int 0, .int (nI N), .ref qya, .ref qyb, .ref qyc, .ref qyd, .ref qye])), (qya, .inl (cA, 14, .inl al)), (qyb, .inl (cA, 14, .inl be)), (qyc, .inl (cA, 56, .inl mn)), (qyd, .inl (cA, 14, .inl fr)), (qye, .inl (cA, 14, .inl tt))]) (va_runV (As := [.int (nI k)]) (rest := [.long (y1 * 31)]) ⟨hx, hb, hml, hown, hts⟩ (c_X4_counted l (D := D) (cA := cA) (H0 := H) (w := k) (hw := by omega) (hN := by omega) (hP := hP.sub (ws' := [(qy, .inr (4, [.int 0, .int (nI N), .ref qya, .ref qyb, .ref qyc, .ref qyd, .ref qye])), (qya, .inl (cA, 14, .inl al)), (qyb, .inl (cA, 14, .inl be)), (qyc, .inl (cA, 56, .inl mn)), (qyd, .inl (cA, 14, .inl fr)), (qye, .inl (cA, 14, .inl tt))]) [0, 1, 2, 3, 4, 5] rfl) (hD0 := (hD.sub (ws' := [(qy, .inr (4, [.int 0, .int (nI N), .ref qya, .ref qyb, .ref qyc, .ref qyd, .ref qye])), (qya, .inl (cA, 14, .inl al)), (qyb, .inl (cA, 14, .inl be)), (qyc, .inl (cA, 56, .inl mn)), (qyd, .inl (cA, 14, .inl fr)), (qye, .inl (cA, 14, .inl tt))]) [0, 1, 2, 3, 4, 5] (by decide) rfl).weaken (fun _ _ _ _ => trivial))) (cwV 1 hts gX4_digest_X4_counted rfl rfl rfl (by decide +kernel) ⟨Nat.le_of_ble_eq_true rfl, Nat.le_of_ble_eq_true rfl⟩) (cP_V hK (va_recv hK.1 hP (ci := 4) (q0 := 0) rfl rfl)) rfl rfl hl.1 rfl (lv_room (Nat.le_of_ble_eq_true rfl)) dX4_digest_24 ⟨by show _ ≤ 133; omega, by show _ ≤ 1862; omega⟩) hP hD hS hA [0, 1, 2, 3, 4, 5] [] rfl (by decide) (by decide) [0, 1, 2, 3, 4, 5] rfl (fun H locs hP hS hz => ?_)
      have hD : va_D A [(qy, .inr (4, [.int 0, .int (nI N), .ref qya, .ref qyb, .ref qyc, .ref qyd, .ref qye])), (qya, .inl (cA, 14, .inl al)), (qyb, .inl (cA, 14, .inl be)), (qyc, .inl (cA, 56, .inl mn)), (qyd, .inl (cA, 14, .inl fr)), (qye, .inl (cA, 14, .inl tt))] := hD.adr rfl
      refine lv_i2l (v := (mcou N al be mn fr tt k).toInt64) hx hb dX4_digest_27 rfl ?_
      refine lv_ladd hx hb dX4_digest_28 ?_
      refine lv_lstore_n (lv' := [(1, .long ((y1 * 31) + ((mcou N al be mn fr tt k).toInt64))), (3, .int (nI k)), (0, .ref qy)]) hx hb dX4_digest_29 rfl hl (by decide) rfl (fun ls hl => ?_)
      refine lv_iinc (v := nI (k + 1)) (x := nI k) (lv' := [(3, .int (nI (k + 1))), (1, .long ((y1 * 31) + ((mcou N al be mn fr tt k).toInt64))), (0, .ref qy)]) hx hb dX4_digest_30 hl (k := 1) rfl (nI_1 k) (by decide) rfl (fun ls hl => ?_)
      refine lv_goto (tgt := 11) hx hb dX4_digest_33 (by decide) ?_
      exact W.widen (by omega) (by omega) (ih11 (k + 1) ((y1 * 31) + ((mcou N al be mn fr tt k).toInt64)) (by omega) (by omega) (by subst ey1; first | rfl | simp [mdig, mxT, h1]) _ _ hP hD hS _ (lv_sub hl [0, 1, 2] rfl))
set_option maxHeartbeats 4000000 in
set_option maxRecDepth 100000 in
theorem c_X4_blame (l : Launch) {D : va_G} {cA : ClassId} {H0 : Heap} {qy qya qyb qyc qyd qye N : Nat} {th : Int32} {al be mn fr tt : Nat → Int32} (hN : N ≤ 14) (hP : va_P D vwCl [(qy, .inr (4, [.int th, .int (nI N), .ref qya, .ref qyb, .ref qyc, .ref qyd, .ref qye])), (qya, .inl (cA, 14, .inl al)), (qyb, .inl (cA, 14, .inl be)), (qyc, .inl (cA, 56, .inl mn)), (qyd, .inl (cA, 14, .inl fr)), (qye, .inl (cA, 14, .inl tt))] H0) (hD0 : va_D (fun _ => True) [(qy, .inr (4, [.int th, .int (nI N), .ref qya, .ref qyb, .ref qyc, .ref qyd, .ref qye])), (qya, .inl (cA, 14, .inl al)), (qyb, .inl (cA, 14, .inl be)), (qyc, .inl (cA, 56, .inl mn)), (qyd, .inl (cA, 14, .inl fr)), (qye, .inl (cA, 14, .inl tt))]) : WR l yX4_blame wsX4_blame 4 87 0 0 [.ref qy] D cA H0 (some (.int (mblB N al be fr tt N))) [(qy, .inr (4, [.int th, .int (nI N), .ref qya, .ref qyb, .ref qyc, .ref qyd, .ref qye])), (qya, .inl (cA, 14, .inl al)), (qyb, .inl (cA, 14, .inl be)), (qyc, .inl (cA, 56, .inl mn)), (qyd, .inl (cA, 14, .inl fr)), (qye, .inl (cA, 14, .inl tt))] [(qy, .inr (4, [.int 0, .int (nI N), .ref qya, .ref qyb, .ref qyc, .ref qyd, .ref qye])), (qya, .inl (cA, 14, .inl al)), (qyb, .inl (cA, 14, .inl be)), (qyc, .inl (cA, 56, .inl mn)), (qyd, .inl (cA, 14, .inl fr)), (qye, .inl (cA, 14, .inl tt))] := by
  refine WR_of (cc := cX4_blame) (maxL := 6) (ret := (some .int)) (by decide) rfl (Nat.le_of_ble_eq_true rfl) ?_
  intro p e s m below meth c ls hx hb hml hr hown hts hlk hin2 hH hK hl
  have hown : s.vm.findClass RX4 = some m.cls := hown
  have hl : lv_has ls 6 [(0, .ref qy)] := hl
  have hinX4 : ∀ w ∈ wsX40, w ∈ wsX4_blame := by decide +kernel
  have hD := hD0.self (sz := H0.size)
  obtain ⟨A, hAe⟩ : ∃ A, A = va_A [(qy, .inr (4, [.int th, .int (nI N), .ref qya, .ref qyb, .ref qyc, .ref qyd, .ref qye])), (qya, .inl (cA, 14, .inl al)), (qyb, .inl (cA, 14, .inl be)), (qyc, .inl (cA, 56, .inl mn)), (qyd, .inl (cA, 14, .inl fr)), (qye, .inl (cA, 14, .inl tt))] H0.size := ⟨_, rfl⟩
  rw [← hAe] at hD ⊢
  have hA : ∀ q : Nat, H0.size ≤ q → A q := fun q h => by rw [hAe]; exact Or.inr h
  have hS : va_S A H0 H0 [] := va_S.rf
  refine lv_aload_n hx hb dX4_blame_0 rfl (lv_at hl 0 rfl) ?_
  refine lv_iconst (v := 0) hx hb dX4_blame_1 (by decide) ?_
  refine va_put (D := D) (ci := 4) (v := .int 0) (ty := .int) (C := RX4) (T := TX4) (N := 7) hx hb hts hinX4 tyX4 tyX4_ok nmX4 hown hK.1 hP hD hS 0 rfl rfl 0 (by decide) (hts (.fieldLink RX4 25 "CairnShellsModel" "thrown" "I") (by decide +kernel)) (fun _ h9 => h9) rfl (by decide +kernel) rfl rfl (Nat.le_of_ble_eq_true rfl) dX4_blame_2 (fun H locs hP hD hS => ?_)
  have hP : va_P D vwCl [(qy, .inr (4, [.int 0, .int (nI N), .ref qya, .ref qyb, .ref qyc, .ref qyd, .ref qye])), (qya, .inl (cA, 14, .inl al)), (qyb, .inl (cA, 14, .inl be)), (qyc, .inl (cA, 56, .inl mn)), (qyd, .inl (cA, 14, .inl fr)), (qye, .inl (cA, 14, .inl tt))] H := hP
  have hD : va_D A [(qy, .inr (4, [.int 0, .int (nI N), .ref qya, .ref qyb, .ref qyc, .ref qyd, .ref qye])), (qya, .inl (cA, 14, .inl al)), (qyb, .inl (cA, 14, .inl be)), (qyc, .inl (cA, 56, .inl mn)), (qyd, .inl (cA, 14, .inl fr)), (qye, .inl (cA, 14, .inl tt))] := hD
  refine lv_iconst (v := (-1)) hx hb dX4_blame_5 (by decide) ?_
  refine lv_istore_n (lv' := [(1, .int (-1)), (0, .ref qy)]) hx hb dX4_blame_6 rfl hl (by decide) rfl (fun ls hl => ?_)
  refine lv_aload_n hx hb dX4_blame_7 rfl (lv_at hl 1 rfl) ?_
  refine RO_go (va_runV (As := []) (rest := []) ⟨hx, hb, hml, hown, hts⟩ (c_X4_doubtful l (D := D) (cA := cA) (H0 := H) (hN := by omega) (hP := hP.sub (ws' := [(qy, .inr (4, [.int 0, .int (nI N), .ref qya, .ref qyb, .ref qyc, .ref qyd, .ref qye])), (qya, .inl (cA, 14, .inl al)), (qyb, .inl (cA, 14, .inl be)), (qyd, .inl (cA, 14, .inl fr)), (qye, .inl (cA, 14, .inl tt))]) [0, 1, 2, 4, 5] rfl)) (cwV 0 hts gX4_blame_X4_doubtful rfl rfl rfl (by decide +kernel) ⟨Nat.le_of_ble_eq_true rfl, Nat.le_of_ble_eq_true rfl⟩) (cP_V hK (va_recv hK.1 hP (ci := 4) (q0 := 0) rfl rfl)) rfl rfl hl.1 rfl (lv_room (Nat.le_of_ble_eq_true rfl)) dX4_blame_8 ⟨by omega, by omega⟩) ?_
  refine lv_istore_n (lv' := [(2, .int (nI (ct (mdb N al be fr tt) N))), (1, .int (-1)), (0, .ref qy)]) hx hb dX4_blame_11 rfl hl (by decide) rfl (fun ls hl => ?_)
  refine lv_iconst (v := 0) hx hb dX4_blame_12 (by decide) ?_
  refine lv_istore_n (lv' := [(3, .int 0), (2, .int (nI (ct (mdb N al be fr tt) N))), (1, .int (-1)), (0, .ref qy)]) hx hb dX4_blame_13 rfl hl (by decide) rfl (fun ls hl => ?_)
  suffices loop : ∀ (n k : Nat) (y2 : Int32) (y1 : Int32), k ≤ N → N < k + n → y2 = mblM N al be fr tt k → y1 = mblB N al be fr tt k → ∀ (H : Heap) (locs : List Loc), va_P D vwCl [(qy, .inr (4, [.int 0, .int (nI N), .ref qya, .ref qyb, .ref qyc, .ref qyd, .ref qye])), (qya, .inl (cA, 14, .inl al)), (qyb, .inl (cA, 14, .inl be)), (qyc, .inl (cA, 56, .inl mn)), (qyd, .inl (cA, 14, .inl fr)), (qye, .inl (cA, 14, .inl tt))] H → va_D A [(qy, .inr (4, [.int 0, .int (nI N), .ref qya, .ref qyb, .ref qyc, .ref qyd, .ref qye])), (qya, .inl (cA, 14, .inl al)), (qyb, .inl (cA, 14, .inl be)), (qyc, .inl (cA, 56, .inl mn)), (qyd, .inl (cA, 14, .inl fr)), (qye, .inl (cA, 14, .inl tt))] → va_S A H0 H locs → ∀ ls, lv_has ls 6 [(3, .int (nI k)), (2, .int y2), (1, .int y1), (0, .ref qy)] → W p l e { frames := 4, cells := 0, slots := 0, locals := 87 } s m ([.ref qy] : List Value).toArray below meth c H locs (0) (0) (MQ below (wrQ (some (.int (mblB N al be fr tt N))) D [(qy, .inr (4, [.int th, .int (nI N), .ref qya, .ref qyb, .ref qyc, .ref qyd, .ref qye])), (qya, .inl (cA, 14, .inl al)), (qyb, .inl (cA, 14, .inl be)), (qyc, .inl (cA, 56, .inl mn)), (qyd, .inl (cA, 14, .inl fr)), (qye, .inl (cA, 14, .inl tt))] [(qy, .inr (4, [.int 0, .int (nI N), .ref qya, .ref qyb, .ref qyc, .ref qyd, .ref qye])), (qya, .inl (cA, 14, .inl al)), (qyb, .inl (cA, 14, .inl be)), (qyc, .inl (cA, 56, .inl mn)), (qyd, .inl (cA, 14, .inl fr)), (qye, .inl (cA, 14, .inl tt))] H0) ([.ref qy] : List Value).toArray s 0 0 A) (F0 m 14 ls []) from loop (N + 1) 0 (nI (ct (mdb N al be fr tt) N)) (-1) (by omega) (by omega) (by first | rfl | (simp [mblB, mblM]; done) | (simp [mblB, mblM]; done)) (by first | rfl | (simp [mblB, mblM]; done) | (simp [mblB, mblM]; done)) _ _ hP hD hS _ (lv_sub hl [0, 1, 2, 3] rfl)
  intro n
  induction n with
  | zero => intro k y2 y1 hk1 hk2; exact absurd hk2 (by omega)
  | succ n ih14 =>
    intro k y2 y1 hk14 hn14 ey2 ey1 H locs hP hD hS ls hl
    refine lv_iload_n hx hb dX4_blame_14 rfl (lv_at hl 0 rfl) ?_
    refine lv_aload_n hx hb dX4_blame_15 rfl (lv_at hl 3 rfl) ?_
    refine va_get (D := D) (ci := 4) (v := .int (nI N)) (C := RX4) (T := TX4) (N := 7) hx hb hts hinX4 hown hK.1 hP 0 rfl rfl 1 (by decide) (hts (.fieldLink RX4 29 "CairnShellsModel" "layers" "I") (by decide +kernel)) (fun _ h9 => h9) rfl dX4_blame_16 ?_
    refine my_geN (x := k) (y := N) (tgt := 82) hx hb dX4_blame_19 (by decide) (by omega) (by omega) (fun h1 => ?_) (fun h1 => ?_)
    · obtain rfl : N = k := by omega
      subst ey1
      subst ey2
      refine lv_iload_n hx hb dX4_blame_82 rfl (lv_at hl 2 rfl) ?_
      exact WR_zret hAe hx hb hr hlk hH dX4_blame_83 (by omega) (by omega) (hP.sub [0, 1, 2, 3, 4, 5] rfl) hS (by rfl) (by first | rfl | simp [h1])
    · refine lv_aload_n hx hb dX4_blame_22 rfl (lv_at hl 3 rfl) ?_
      refine lv_iload_n hx hb dX4_blame_23 rfl (lv_at hl 0 rfl) ?_
      refine RO_go (va_runV (As := [.int (nI k)]) (rest := []) ⟨hx, hb, hml, hown, hts⟩ (c_X4_isDated l (D := D) (cA := cA) (H0 := H) (j := k) (hj := by omega) (hP := hP.sub (ws' := [(qy, .inr (4, [.int 0, .int (nI N), .ref qya, .ref qyb, .ref qyc, .ref qyd, .ref qye])), (qyd, .inl (cA, 14, .inl fr))]) [0, 4] rfl)) (cwV 1 hts gX4_blame_X4_isDated rfl rfl rfl (by decide +kernel) ⟨Nat.le_of_ble_eq_true rfl, Nat.le_of_ble_eq_true rfl⟩) (cP_V hK (va_recv hK.1 hP (ci := 4) (q0 := 0) rfl rfl)) rfl rfl hl.1 rfl (lv_room (Nat.le_of_ble_eq_true rfl)) dX4_blame_24 ⟨by omega, by omega⟩) ?_
      refine my_ifne_b (tgt := 33) hx hb dX4_blame_27 (by decide) (fun h2 => ?_) (fun h2 => ?_)
      · refine lv_aload_n hx hb dX4_blame_33 rfl (lv_at hl 3 rfl) ?_
        refine va_get (D := D) (ci := 4) (v := .ref qyd) (C := RX4) (T := TX4) (N := 7) hx hb hts hinX4 hown hK.1 hP 0 rfl rfl 5 (by decide) (hts (.fieldLink RX4 19 "CairnShellsModel" "froms" "[I") (by decide +kernel)) (fun _ h9 => h9) rfl dX4_blame_34 ?_
        refine lv_iload_n hx hb dX4_blame_37 rfl (lv_at hl 0 rfl) ?_
        refine my_iald (D := D) (j := k) hx hb hK hP 4 rfl (by omega) (by decide) dX4_blame_38 ?_
        refine lv_istore (lv' := [(4, .int (fr k)), (3, .int (nI k)), (2, .int y2), (1, .int y1), (0, .ref qy)]) hx hb dX4_blame_39 hl (by decide) rfl (fun ls hl => ?_)
        refine lv_aload_n hx hb dX4_blame_41 rfl (lv_at hl 4 rfl) ?_
        refine va_get (D := D) (ci := 4) (v := .ref qyd) (C := RX4) (T := TX4) (N := 7) hx hb hts hinX4 hown hK.1 hP 0 rfl rfl 5 (by decide) (hts (.fieldLink RX4 19 "CairnShellsModel" "froms" "[I") (by decide +kernel)) (fun _ h9 => h9) rfl dX4_blame_42 ?_
        refine lv_iload_n hx hb dX4_blame_45 rfl (lv_at hl 1 rfl) ?_
        refine lv_iconst (v := (-1)) hx hb dX4_blame_46 (by decide) ?_
        refine my_iast (D := D) (j := k) hx hb hK hP hD hS 4 rfl (by omega) (by decide) dX4_blame_47 (fun H locs hP hD hS => ?_)
        have hP : va_P D vwCl [(qy, .inr (4, [.int 0, .int (nI N), .ref qya, .ref qyb, .ref qyc, .ref qyd, .ref qye])), (qya, .inl (cA, 14, .inl al)), (qyb, .inl (cA, 14, .inl be)), (qyc, .inl (cA, 56, .inl mn)), (qyd, .inl (cA, 14, .inl (upd fr k (-1)))), (qye, .inl (cA, 14, .inl tt))] H := hP
        have hD : va_D A [(qy, .inr (4, [.int 0, .int (nI N), .ref qya, .ref qyb, .ref qyc, .ref qyd, .ref qye])), (qya, .inl (cA, 14, .inl al)), (qyb, .inl (cA, 14, .inl be)), (qyc, .inl (cA, 56, .inl mn)), (qyd, .inl (cA, 14, .inl (upd fr k (-1)))), (qye, .inl (cA, 14, .inl tt))] := hD
        refine lv_aload_n hx hb dX4_blame_48 rfl (lv_at hl 4 rfl) ?_
        refine RO_go (va_runV (As := []) (rest := []) ⟨hx, hb, hml, hown, hts⟩ (c_X4_doubtful l (D := D) (cA := cA) (H0 := H) (hN := by omega) (hP := hP.sub (ws' := [(qy, .inr (4, [.int 0, .int (nI N), .ref qya, .ref qyb, .ref qyc, .ref qyd, .ref qye])), (qya, .inl (cA, 14, .inl al)), (qyb, .inl (cA, 14, .inl be)), (qyd, .inl (cA, 14, .inl (upd fr k (-1)))), (qye, .inl (cA, 14, .inl tt))]) [0, 1, 2, 4, 5] rfl)) (cwV 0 hts gX4_blame_X4_doubtful rfl rfl rfl (by decide +kernel) ⟨Nat.le_of_ble_eq_true rfl, Nat.le_of_ble_eq_true rfl⟩) (cP_V hK (va_recv hK.1 hP (ci := 4) (q0 := 0) rfl rfl)) rfl rfl hl.1 rfl (lv_room (Nat.le_of_ble_eq_true rfl)) dX4_blame_49 ⟨by omega, by omega⟩) ?_
        refine lv_istore (lv' := [(5, .int (nI (ct (mdb N al be (upd fr k (-1)) tt) N))), (4, .int (fr k)), (3, .int (nI k)), (2, .int y2), (1, .int y1), (0, .ref qy)]) hx hb dX4_blame_52 hl (by decide) rfl (fun ls hl => ?_)
        refine lv_aload_n hx hb dX4_blame_54 rfl (lv_at hl 5 rfl) ?_
        refine va_get (D := D) (ci := 4) (v := .ref qyd) (C := RX4) (T := TX4) (N := 7) hx hb hts hinX4 hown hK.1 hP 0 rfl rfl 5 (by decide) (hts (.fieldLink RX4 19 "CairnShellsModel" "froms" "[I") (by decide +kernel)) (fun _ h9 => h9) rfl dX4_blame_55 ?_
        refine lv_iload_n hx hb dX4_blame_58 rfl (lv_at hl 2 rfl) ?_
        refine lv_iload hx hb dX4_blame_59 (lv_at hl 1 rfl) ?_
        refine my_iast (D := D) (j := k) hx hb hK hP hD hS 4 rfl (by omega) (by decide) dX4_blame_61 (fun H locs hP hD hS => ?_)
        have hP : va_P D vwCl [(qy, .inr (4, [.int 0, .int (nI N), .ref qya, .ref qyb, .ref qyc, .ref qyd, .ref qye])), (qya, .inl (cA, 14, .inl al)), (qyb, .inl (cA, 14, .inl be)), (qyc, .inl (cA, 56, .inl mn)), (qyd, .inl (cA, 14, .inl (upd (upd fr k (-1)) k (fr k)))), (qye, .inl (cA, 14, .inl tt))] H := hP
        have hD : va_D A [(qy, .inr (4, [.int 0, .int (nI N), .ref qya, .ref qyb, .ref qyc, .ref qyd, .ref qye])), (qya, .inl (cA, 14, .inl al)), (qyb, .inl (cA, 14, .inl be)), (qyc, .inl (cA, 56, .inl mn)), (qyd, .inl (cA, 14, .inl (upd (upd fr k (-1)) k (fr k)))), (qye, .inl (cA, 14, .inl tt))] := hD
        have e9 : upd (upd fr k (-1)) k (fr k) = fr := upd_back
        rw [e9] at hP hD
        have hP : va_P D vwCl [(qy, .inr (4, [.int 0, .int (nI N), .ref qya, .ref qyb, .ref qyc, .ref qyd, .ref qye])), (qya, .inl (cA, 14, .inl al)), (qyb, .inl (cA, 14, .inl be)), (qyc, .inl (cA, 56, .inl mn)), (qyd, .inl (cA, 14, .inl fr)), (qye, .inl (cA, 14, .inl tt))] H := hP
        have hD : va_D A [(qy, .inr (4, [.int 0, .int (nI N), .ref qya, .ref qyb, .ref qyc, .ref qyd, .ref qye])), (qya, .inl (cA, 14, .inl al)), (qyb, .inl (cA, 14, .inl be)), (qyc, .inl (cA, 56, .inl mn)), (qyd, .inl (cA, 14, .inl fr)), (qye, .inl (cA, 14, .inl tt))] := hD
        refine lv_iload hx hb dX4_blame_62 (lv_at hl 0 rfl) ?_
        refine lv_iload_n hx hb dX4_blame_64 rfl (lv_at hl 3 rfl) ?_
        refine lv_icmp_lt (tgt := 71) hx hb dX4_blame_65 (by decide) (fun h3 => ?_) (fun h3 => ?_)
        · refine lv_iload_n hx hb dX4_blame_71 rfl (lv_at hl 2 rfl) ?_
          refine lv_istore_n (lv' := [(1, .int (nI k)), (5, .int (nI (ct (mdb N al be (upd fr k (-1)) tt) N))), (4, .int (fr k)), (3, .int (nI k)), (2, .int y2), (0, .ref qy)]) hx hb dX4_blame_72 rfl hl (by decide) rfl (fun ls hl => ?_)
          refine lv_iload hx hb dX4_blame_73 (lv_at hl 1 rfl) ?_
          refine lv_istore_n (lv' := [(2, .int (nI (ct (mdb N al be (upd fr k (-1)) tt) N))), (1, .int (nI k)), (5, .int (nI (ct (mdb N al be (upd fr k (-1)) tt) N))), (4, .int (fr k)), (3, .int (nI k)), (0, .ref qy)]) hx hb dX4_blame_75 rfl hl (by decide) rfl (fun ls hl => ?_)
          refine lv_iinc (v := nI (k + 1)) (x := nI k) (lv' := [(3, .int (nI (k + 1))), (2, .int (nI (ct (mdb N al be (upd fr k (-1)) tt) N))), (1, .int (nI k)), (5, .int (nI (ct (mdb N al be (upd fr k (-1)) tt) N))), (4, .int (fr k)), (0, .ref qy)]) hx hb dX4_blame_76 hl (k := 4) rfl (nI_1 k) (by decide) rfl (fun ls hl => ?_)
          refine lv_goto (tgt := 14) hx hb dX4_blame_79 (by decide) ?_
          exact ih14 (k + 1) (nI (ct (mdb N al be (upd fr k (-1)) tt) N)) (nI k) (by omega) (by omega) (by subst ey1; subst ey2; simp [mblB, mblM, h1, h2, h3]) (by subst ey1; subst ey2; simp [mblB, mblM, h1, h2, h3]) _ _ hP hD hS _ (lv_sub hl [0, 1, 2, 5] rfl)
        · refine lv_goto (tgt := 76) hx hb dX4_blame_68 (by decide) ?_
          refine lv_iinc (v := nI (k + 1)) (x := nI k) (lv' := [(3, .int (nI (k + 1))), (5, .int (nI (ct (mdb N al be (upd fr k (-1)) tt) N))), (4, .int (fr k)), (2, .int y2), (1, .int y1), (0, .ref qy)]) hx hb dX4_blame_76 hl (k := 2) rfl (nI_1 k) (by decide) rfl (fun ls hl => ?_)
          refine lv_goto (tgt := 14) hx hb dX4_blame_79 (by decide) ?_
          exact ih14 (k + 1) y2 y1 (by omega) (by omega) (by subst ey1; subst ey2; simp [mblB, mblM, h1, h2, h3]) (by subst ey1; subst ey2; simp [mblB, mblM, h1, h2, h3]) _ _ hP hD hS _ (lv_sub hl [0, 3, 4, 5] rfl)
      · refine lv_goto (tgt := 76) hx hb dX4_blame_30 (by decide) ?_
        refine lv_iinc (v := nI (k + 1)) (x := nI k) (lv' := [(3, .int (nI (k + 1))), (2, .int y2), (1, .int y1), (0, .ref qy)]) hx hb dX4_blame_76 hl (k := 0) rfl (nI_1 k) (by decide) rfl (fun ls hl => ?_)
        refine lv_goto (tgt := 14) hx hb dX4_blame_79 (by decide) ?_
        exact ih14 (k + 1) y2 y1 (by omega) (by omega) (by subst ey1; subst ey2; simp [mblB, mblM, h1, h2]) (by subst ey1; subst ey2; simp [mblB, mblM, h1, h2]) _ _ hP hD hS _ (lv_sub hl [0, 1, 2, 3] rfl)
