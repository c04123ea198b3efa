set_option maxHeartbeats 4000000 in
set_option maxRecDepth 100000 in
theorem c_X4_from (l : Launch) {D : va_G} {cA : ClassId} {H0 : Heap} {a N ab sm fi he sa la : Nat} {rsa rla rhe rfi : Nat → Nat} {al be fr tt mn : Nat → Int32} (j : Nat) (hN : N ≤ 14) (hj : j < N) (hR : SR D cA H0 a N ab sm fi he sa la rsa rla rhe rfi al be fr tt mn) : RO l yX4_from wsX4_from 0 0 [.ref a, .int (nI j)] D cA H0 (some (.int (sF fr (pF al be j) N))) := by
  refine RO_of (cc := cX4_from) (maxL := 4) (ret := (some .int)) (by decide) rfl (Nat.le_of_ble_eq_true rfl) ?_
  intro p e s m below meth c ls hx hb hml hr hown hts hlk hH hK hl
  have hown : s.vm.findClass RX4 = some m.cls := hown
  have hl : lv_has ls 4 [(0, .ref a), (1, .int (nI j))] := hl
  have hinX4 : ∀ w ∈ wsX40, w ∈ wsX4_from := fun w h9 => List.mem_cons_of_mem _ (List.mem_append_right _ h9)
  refine lv_iconst (v := 0) hx hb dX4_from_0 (by decide) ?_
  refine lv_istore_n (lv' := [(2, .int 0), (0, .ref a), (1, .int (nI j))]) hx hb dX4_from_1 rfl hl (by decide) rfl (fun ls hl => ?_)
  refine lv_iconst (v := 0) hx hb dX4_from_2 (by decide) ?_
  refine lv_istore_n (lv' := [(3, .int 0), (2, .int 0), (0, .ref a), (1, .int (nI j))]) hx hb dX4_from_3 rfl hl (by decide) rfl (fun ls hl => ?_)
  suffices lp4 : ∀ (n k : Nat) (y : Int32), k ≤ N → N < k + n → y = sF fr (pF al be j) k → ∀ ls, lv_has ls 4 [(3, .int (nI k)), (2, .int y), (0, .ref a), (1, .int (nI j))] → W p l e { frames := 0, cells := 0, slots := 0, locals := 0 } s m ([.ref a, .int (nI j)] : List Value).toArray below meth c H0 [] 0 0 (MQ below (roQ (some (.int (sF fr (pF al be j) N))) H0) ([.ref a, .int (nI j)] : List Value).toArray s 0 0 (fun _ => False)) (F0 m 4 ls []) from lp4 (N + 1) 0 0 (by omega) (by omega) (by first | rfl | (simp [sF]; done) | decide)  _ (lv_sub hl [0, 1, 2, 3] rfl)
  intro n
  induction n with
  | zero => intro k y hk1 hk2; exact absurd hk2 (by omega)
  | succ n ih4 =>
    intro k y hk4 hn4 ey  ls hl
    subst ey
    refine lv_iload_n hx hb dX4_from_4 rfl (lv_at hl 0 rfl) ?_
    refine lv_aload_n hx hb dX4_from_5 rfl (lv_at hl 2 rfl) ?_
    refine fa_get (D := D) (ci := 4) (v := .int (nI N)) (C := RX4) (T := TX4) (N := 7) hx hb hts hinX4 hown hK hR.1 rfl 0 (by decide) (hts (.fieldLink RX4 25 "CairnShellsLaw$Sim" "n" "I") (by decide +kernel)) (fun _ h9 => h9) rfl dX4_from_6 ?_
    refine my_geN (x := k) (y := N) (tgt := 61) hx hb dX4_from_9 (by decide) (by omega) (by omega) (fun h2 => ?_) (fun h2 => ?_)
    · obtain rfl : N = k := by omega
      refine lv_iload_n hx hb dX4_from_61 rfl (lv_at hl 1 rfl) ?_
      exact RO_zret hx hb hr hlk hH dX4_from_62 (by rfl) rfl
    · refine lv_aload_n hx hb dX4_from_12 rfl (lv_at hl 2 rfl) ?_
      refine fa_get (D := D) (ci := 4) (v := .ref sa) (C := RX4) (T := TX4) (N := 7) hx hb hts hinX4 hown hK hR.1 rfl 5 (by decide) (hts (.fieldLink RX4 31 "CairnShellsLaw$Sim" "same" "[[Z") (by decide +kernel)) (fun _ h9 => h9) rfl dX4_from_13 ?_
      refine lv_iload_n hx hb dX4_from_16 rfl (lv_at hl 3 rfl) ?_
      refine fa_aald 3 hx hb hK rfl rfl hR.2.1.1 rfl (by omega) (by omega) dX4_from_17 ?_
      refine lv_iload_n hx hb dX4_from_18 rfl (lv_at hl 0 rfl) ?_
      refine fa_zald (D := D) (j := k) hx hb hK (hR.2.1.2 j (by omega)) (by omega) (by omega) dX4_from_19 ?_
      refine my_ifne_b (tgt := 34) hx hb dX4_from_20 (by decide) (fun h3 => ?_) (fun h3 => ?_)
      · refine lv_aload_n hx hb dX4_from_34 rfl (lv_at hl 2 rfl) ?_
        refine fa_get (D := D) (ci := 4) (v := .ref he) (C := RX4) (T := TX4) (N := 7) hx hb hts hinX4 hown hK hR.1 rfl 4 (by decide) (hts (.fieldLink RX4 22 "CairnShellsLaw$Sim" "hearths" "[[I") (by decide +kernel)) (fun _ h9 => h9) rfl dX4_from_35 ?_
        refine lv_iload_n hx hb dX4_from_38 rfl (lv_at hl 0 rfl) ?_
        refine fa_aald 2 hx hb hK rfl rfl hR.2.2.2.1.1 rfl (by omega) (by omega) dX4_from_39 ?_
        refine lv_iconst (v := 0) hx hb dX4_from_40 (by decide) ?_
        refine fa_iald (D := D) (j := 0) hx hb hK (hR.2.2.2.1.2 k (by omega)) (by omega) (by omega) dX4_from_41 ?_
        refine W.eq (g2 := F0 m 42 ls [.int (fr k)]) rfl ?_
        refine lv_iload_n hx hb dX4_from_42 rfl (lv_at hl 1 rfl) ?_
        refine lv_icmp_le (tgt := 55) hx hb dX4_from_43 (by decide) (fun h4 => ?_) (fun h4 => ?_)
        · refine lv_iinc (v := nI (k + 1)) (x := nI k) (lv' := [(3, .int (nI (k + 1))), (2, .int (sF fr (pF al be j) k)), (0, .ref a), (1, .int (nI j))]) hx hb dX4_from_55 hl (k := 0) rfl (nI_1 k) (by decide) rfl (fun ls hl => ?_)
          refine lv_goto (tgt := 4) hx hb dX4_from_58 (by decide) ?_
          exact ih4 (k + 1) (sF fr (pF al be j) k) (by omega) (by omega) (by simp [sF, h2, h3, h4])  _ (lv_sub hl [0, 1, 2, 3] rfl)
        · refine lv_aload_n hx hb dX4_from_46 rfl (lv_at hl 2 rfl) ?_
          refine fa_get (D := D) (ci := 4) (v := .ref he) (C := RX4) (T := TX4) (N := 7) hx hb hts hinX4 hown hK hR.1 rfl 4 (by decide) (hts (.fieldLink RX4 22 "CairnShellsLaw$Sim" "hearths" "[[I") (by decide +kernel)) (fun _ h9 => h9) rfl dX4_from_47 ?_
          refine lv_iload_n hx hb dX4_from_50 rfl (lv_at hl 0 rfl) ?_
          refine fa_aald 2 hx hb hK rfl rfl hR.2.2.2.1.1 rfl (by omega) (by omega) dX4_from_51 ?_
          refine lv_iconst (v := 0) hx hb dX4_from_52 (by decide) ?_
          refine fa_iald (D := D) (j := 0) hx hb hK (hR.2.2.2.1.2 k (by omega)) (by omega) (by omega) dX4_from_53 ?_
          refine W.eq (g2 := F0 m 54 ls [.int (fr k)]) rfl ?_
          refine lv_istore_n (lv' := [(2, .int (fr k)), (3, .int (nI k)), (0, .ref a), (1, .int (nI j))]) hx hb dX4_from_54 rfl hl (by decide) rfl (fun ls hl => ?_)
          refine lv_iinc (v := nI (k + 1)) (x := nI k) (lv' := [(3, .int (nI (k + 1))), (2, .int (fr k)), (0, .ref a), (1, .int (nI j))]) hx hb dX4_from_55 hl (k := 1) rfl (nI_1 k) (by decide) rfl (fun ls hl => ?_)
          refine lv_goto (tgt := 4) hx hb dX4_from_58 (by decide) ?_
          exact ih4 (k + 1) (fr k) (by omega) (by omega) (by simp [sF, h2, h3, h4])  _ (lv_sub hl [0, 1, 2, 3] rfl)
      · refine lv_aload_n hx hb dX4_from_23 rfl (lv_at hl 2 rfl) ?_
        refine fa_get (D := D) (ci := 4) (v := .ref la) (C := RX4) (T := TX4) (N := 7) hx hb hts hinX4 hown hK hR.1 rfl 6 (by decide) (hts (.fieldLink RX4 34 "CairnShellsLaw$Sim" "later" "[[Z") (by decide +kernel)) (fun _ h9 => h9) rfl dX4_from_24 ?_
        refine lv_iload_n hx hb dX4_from_27 rfl (lv_at hl 3 rfl) ?_
        refine fa_aald 3 hx hb hK rfl rfl hR.2.2.1.1 rfl (by omega) (by omega) dX4_from_28 ?_
        refine lv_iload_n hx hb dX4_from_29 rfl (lv_at hl 0 rfl) ?_
        refine fa_zald (D := D) (j := k) hx hb hK (hR.2.2.1.2 j (by omega)) (by omega) (by omega) dX4_from_30 ?_
        refine my_ifeq_b (tgt := 55) hx hb dX4_from_31 (by decide) (fun h5 => ?_) (fun h5 => ?_)
        · refine lv_iinc (v := nI (k + 1)) (x := nI k) (lv' := [(3, .int (nI (k + 1))), (2, .int (sF fr (pF al be j) k)), (0, .ref a), (1, .int (nI j))]) hx hb dX4_from_55 hl (k := 0) rfl (nI_1 k) (by decide) rfl (fun ls hl => ?_)
          refine lv_goto (tgt := 4) hx hb dX4_from_58 (by decide) ?_
          exact ih4 (k + 1) (sF fr (pF al be j) k) (by omega) (by omega) (by simp [sF, h2, h3, h5])  _ (lv_sub hl [0, 1, 2, 3] rfl)
        · refine lv_aload_n hx hb dX4_from_34 rfl (lv_at hl 2 rfl) ?_
          refine fa_get (D := D) (ci := 4) (v := .ref he) (C := RX4) (T := TX4) (N := 7) hx hb hts hinX4 hown hK hR.1 rfl 4 (by decide) (hts (.fieldLink RX4 22 "CairnShellsLaw$Sim" "hearths" "[[I") (by decide +kernel)) (fun _ h9 => h9) rfl dX4_from_35 ?_
          refine lv_iload_n hx hb dX4_from_38 rfl (lv_at hl 0 rfl) ?_
          refine fa_aald 2 hx hb hK rfl rfl hR.2.2.2.1.1 rfl (by omega) (by omega) dX4_from_39 ?_
          refine lv_iconst (v := 0) hx hb dX4_from_40 (by decide) ?_
          refine fa_iald (D := D) (j := 0) hx hb hK (hR.2.2.2.1.2 k (by omega)) (by omega) (by omega) dX4_from_41 ?_
          refine W.eq (g2 := F0 m 42 ls [.int (fr k)]) rfl ?_
          refine lv_iload_n hx hb dX4_from_42 rfl (lv_at hl 1 rfl) ?_
          refine lv_icmp_le (tgt := 55) hx hb dX4_from_43 (by decide) (fun h6 => ?_) (fun h6 => ?_)
          · refine lv_iinc (v := nI (k + 1)) (x := nI k) (lv' := [(3, .int (nI (k + 1))), (2, .int (sF fr (pF al be j) k)), (0, .ref a), (1, .int (nI j))]) hx hb dX4_from_55 hl (k := 0) rfl (nI_1 k) (by decide) rfl (fun ls hl => ?_)
            refine lv_goto (tgt := 4) hx hb dX4_from_58 (by decide) ?_
            exact ih4 (k + 1) (sF fr (pF al be j) k) (by omega) (by omega) (by simp [sF, h2, h3, h5, h6])  _ (lv_sub hl [0, 1, 2, 3] rfl)
          · refine lv_aload_n hx hb dX4_from_46 rfl (lv_at hl 2 rfl) ?_
            refine fa_get (D := D) (ci := 4) (v := .ref he) (C := RX4) (T := TX4) (N := 7) hx hb hts hinX4 hown hK hR.1 rfl 4 (by decide) (hts (.fieldLink RX4 22 "CairnShellsLaw$Sim" "hearths" "[[I") (by decide +kernel)) (fun _ h9 => h9) rfl dX4_from_47 ?_
            refine lv_iload_n hx hb dX4_from_50 rfl (lv_at hl 0 rfl) ?_
            refine fa_aald 2 hx hb hK rfl rfl hR.2.2.2.1.1 rfl (by omega) (by omega) dX4_from_51 ?_
            refine lv_iconst (v := 0) hx hb dX4_from_52 (by decide) ?_
            refine fa_iald (D := D) (j := 0) hx hb hK (hR.2.2.2.1.2 k (by omega)) (by omega) (by omega) dX4_from_53 ?_
            refine W.eq (g2 := F0 m 54 ls [.int (fr k)]) rfl ?_
            refine lv_istore_n (lv' := [(2, .int (fr k)), (3, .int (nI k)), (0, .ref a), (1, .int (nI j))]) hx hb dX4_from_54 rfl hl (by decide) rfl (fun ls hl => ?_)
            refine lv_iinc (v := nI (k + 1)) (x := nI k) (lv' := [(3, .int (nI (k + 1))), (2, .int (fr k)), (0, .ref a), (1, .int (nI j))]) hx hb dX4_from_55 hl (k := 1) rfl (nI_1 k) (by decide) rfl (fun ls hl => ?_)
            refine lv_goto (tgt := 4) hx hb dX4_from_58 (by decide) ?_
            exact ih4 (k + 1) (fr k) (by omega) (by omega) (by simp [sF, h2, h3, h5, h6])  _ (lv_sub hl [0, 1, 2, 3] rfl)
set_option maxHeartbeats 4000000 in
set_option maxRecDepth 100000 in
theorem c_X4_to (l : Launch) {D : va_G} {cA : ClassId} {H0 : Heap} {a N ab sm fi he sa la : Nat} {rsa rla rhe rfi : Nat → Nat} {al be fr tt mn : Nat → Int32} (j : Nat) (hN : N ≤ 14) (hj : j < N) (hR : SR D cA H0 a N ab sm fi he sa la rsa rla rhe rfi al be fr tt mn) : RO l yX4_to wsX4_to 0 0 [.ref a, .int (nI j)] D cA H0 (some (.int (sT fr tt (pT al be j) N))) := by
  refine RO_of (cc := cX4_to) (maxL := 4) (ret := (some .int)) (by decide) rfl (Nat.le_of_ble_eq_true rfl) ?_
  intro p e s m below meth c ls hx hb hml hr hown hts hlk hH hK hl
  have hown : s.vm.findClass RX4 = some m.cls := hown
  have hl : lv_has ls 4 [(0, .ref a), (1, .int (nI j))] := hl
  have hinX4 : ∀ w ∈ wsX40, w ∈ wsX4_to := fun w h9 => List.mem_cons_of_mem _ (List.mem_append_right _ h9)
  refine lv_sipush (v := 9999) hx hb dX4_to_0 (by decide) ?_
  refine lv_istore_n (lv' := [(2, .int 9999), (0, .ref a), (1, .int (nI j))]) hx hb dX4_to_3 rfl hl (by decide) rfl (fun ls hl => ?_)
  refine lv_iconst (v := 0) hx hb dX4_to_4 (by decide) ?_
  refine lv_istore_n (lv' := [(3, .int 0), (2, .int 9999), (0, .ref a), (1, .int (nI j))]) hx hb dX4_to_5 rfl hl (by decide) rfl (fun ls hl => ?_)
  suffices lp6 : ∀ (n k : Nat) (y : Int32), k ≤ N → N < k + n → y = sT fr tt (pT al be j) k → ∀ ls, lv_has ls 4 [(3, .int (nI k)), (2, .int y), (0, .ref a), (1, .int (nI j))] → W p l e { frames := 0, cells := 0, slots := 0, locals := 0 } s m ([.ref a, .int (nI j)] : List Value).toArray below meth c H0 [] 0 0 (MQ below (roQ (some (.int (sT fr tt (pT al be j) N))) H0) ([.ref a, .int (nI j)] : List Value).toArray s 0 0 (fun _ => False)) (F0 m 6 ls []) from lp6 (N + 1) 0 9999 (by omega) (by omega) (by first | rfl | (simp [sT]; done) | decide)  _ (lv_sub hl [0, 1, 2, 3] rfl)
  intro n
  induction n with
  | zero => intro k y hk1 hk2; exact absurd hk2 (by omega)
  | succ n ih6 =>
    intro k y hk6 hn6 ey  ls hl
    subst ey
    refine lv_iload_n hx hb dX4_to_6 rfl (lv_at hl 0 rfl) ?_
    refine lv_aload_n hx hb dX4_to_7 rfl (lv_at hl 2 rfl) ?_
    refine fa_get (D := D) (ci := 4) (v := .int (nI N)) (C := RX4) (T := TX4) (N := 7) hx hb hts hinX4 hown hK hR.1 rfl 0 (by decide) (hts (.fieldLink RX4 25 "CairnShellsLaw$Sim" "n" "I") (by decide +kernel)) (fun _ h9 => h9) rfl dX4_to_8 ?_
    refine my_geN (x := k) (y := N) (tgt := 74) hx hb dX4_to_11 (by decide) (by omega) (by omega) (fun h2 => ?_) (fun h2 => ?_)
    · obtain rfl : N = k := by omega
      refine lv_iload_n hx hb dX4_to_74 rfl (lv_at hl 1 rfl) ?_
      exact RO_zret hx hb hr hlk hH dX4_to_75 (by rfl) rfl
    · refine lv_aload_n hx hb dX4_to_14 rfl (lv_at hl 2 rfl) ?_
      refine fa_get (D := D) (ci := 4) (v := .ref sa) (C := RX4) (T := TX4) (N := 7) hx hb hts hinX4 hown hK hR.1 rfl 5 (by decide) (hts (.fieldLink RX4 31 "CairnShellsLaw$Sim" "same" "[[Z") (by decide +kernel)) (fun _ h9 => h9) rfl dX4_to_15 ?_
      refine lv_iload_n hx hb dX4_to_18 rfl (lv_at hl 3 rfl) ?_
      refine fa_aald 3 hx hb hK rfl rfl hR.2.1.1 rfl (by omega) (by omega) dX4_to_19 ?_
      refine lv_iload_n hx hb dX4_to_20 rfl (lv_at hl 0 rfl) ?_
      refine fa_zald (D := D) (j := k) hx hb hK (hR.2.1.2 j (by omega)) (by omega) (by omega) dX4_to_21 ?_
      refine my_ifne_b (tgt := 36) hx hb dX4_to_22 (by decide) (fun h3 => ?_) (fun h3 => ?_)
      · refine lv_aload_n hx hb dX4_to_36 rfl (lv_at hl 2 rfl) ?_
        refine fa_get (D := D) (ci := 4) (v := .ref he) (C := RX4) (T := TX4) (N := 7) hx hb hts hinX4 hown hK hR.1 rfl 4 (by decide) (hts (.fieldLink RX4 22 "CairnShellsLaw$Sim" "hearths" "[[I") (by decide +kernel)) (fun _ h9 => h9) rfl dX4_to_37 ?_
        refine lv_iload_n hx hb dX4_to_40 rfl (lv_at hl 0 rfl) ?_
        refine fa_aald 2 hx hb hK rfl rfl hR.2.2.2.1.1 rfl (by omega) (by omega) dX4_to_41 ?_
        refine lv_iconst (v := 0) hx hb dX4_to_42 (by decide) ?_
        refine fa_iald (D := D) (j := 0) hx hb hK (hR.2.2.2.1.2 k (by omega)) (by omega) (by omega) dX4_to_43 ?_
        refine W.eq (g2 := F0 m 44 ls [.int (fr k)]) rfl ?_
        refine lv_if_lt (tgt := 68) hx hb dX4_to_44 (by decide) (fun h4 => ?_) (fun h4 => ?_)
        · refine lv_iinc (v := nI (k + 1)) (x := nI k) (lv' := [(3, .int (nI (k + 1))), (2, .int (sT fr tt (pT al be j) k)), (0, .ref a), (1, .int (nI j))]) hx hb dX4_to_68 hl (k := 0) rfl (nI_1 k) (by decide) rfl (fun ls hl => ?_)
          refine lv_goto (tgt := 6) hx hb dX4_to_71 (by decide) ?_
          exact ih6 (k + 1) (sT fr tt (pT al be j) k) (by omega) (by omega) (by simp [sT, h2, h3, h4])  _ (lv_sub hl [0, 1, 2, 3] rfl)
        · refine lv_aload_n hx hb dX4_to_47 rfl (lv_at hl 2 rfl) ?_
          refine fa_get (D := D) (ci := 4) (v := .ref he) (C := RX4) (T := TX4) (N := 7) hx hb hts hinX4 hown hK hR.1 rfl 4 (by decide) (hts (.fieldLink RX4 22 "CairnShellsLaw$Sim" "hearths" "[[I") (by decide +kernel)) (fun _ h9 => h9) rfl dX4_to_48 ?_
          refine lv_iload_n hx hb dX4_to_51 rfl (lv_at hl 0 rfl) ?_
          refine fa_aald 2 hx hb hK rfl rfl hR.2.2.2.1.1 rfl (by omega) (by omega) dX4_to_52 ?_
          refine lv_iconst (v := 1) hx hb dX4_to_53 (by decide) ?_
          refine fa_iald (D := D) (j := 1) hx hb hK (hR.2.2.2.1.2 k (by omega)) (by omega) (by omega) dX4_to_54 ?_
          refine W.eq (g2 := F0 m 55 ls [.int (tt k)]) rfl ?_
          refine lv_iload_n hx hb dX4_to_55 rfl (lv_at hl 1 rfl) ?_
          refine lv_icmp_ge (tgt := 68) hx hb dX4_to_56 (by decide) (fun h5 => ?_) (fun h5 => ?_)
          · refine lv_iinc (v := nI (k + 1)) (x := nI k) (lv' := [(3, .int (nI (k + 1))), (2, .int (sT fr tt (pT al be j) k)), (0, .ref a), (1, .int (nI j))]) hx hb dX4_to_68 hl (k := 0) rfl (nI_1 k) (by decide) rfl (fun ls hl => ?_)
            refine lv_goto (tgt := 6) hx hb dX4_to_71 (by decide) ?_
            exact ih6 (k + 1) (sT fr tt (pT al be j) k) (by omega) (by omega) (by simp [sT, h2, h3, h4, h5])  _ (lv_sub hl [0, 1, 2, 3] rfl)
          · refine lv_aload_n hx hb dX4_to_59 rfl (lv_at hl 2 rfl) ?_
            refine fa_get (D := D) (ci := 4) (v := .ref he) (C := RX4) (T := TX4) (N := 7) hx hb hts hinX4 hown hK hR.1 rfl 4 (by decide) (hts (.fieldLink RX4 22 "CairnShellsLaw$Sim" "hearths" "[[I") (by decide +kernel)) (fun _ h9 => h9) rfl dX4_to_60 ?_
            refine lv_iload_n hx hb dX4_to_63 rfl (lv_at hl 0 rfl) ?_
            refine fa_aald 2 hx hb hK rfl rfl hR.2.2.2.1.1 rfl (by omega) (by omega) dX4_to_64 ?_
            refine lv_iconst (v := 1) hx hb dX4_to_65 (by decide) ?_
            refine fa_iald (D := D) (j := 1) hx hb hK (hR.2.2.2.1.2 k (by omega)) (by omega) (by omega) dX4_to_66 ?_
            refine W.eq (g2 := F0 m 67 ls [.int (tt k)]) rfl ?_
            refine lv_istore_n (lv' := [(2, .int (tt k)), (3, .int (nI k)), (0, .ref a), (1, .int (nI j))]) hx hb dX4_to_67 rfl hl (by decide) rfl (fun ls hl => ?_)
            refine lv_iinc (v := nI (k + 1)) (x := nI k) (lv' := [(3, .int (nI (k + 1))), (2, .int (tt k)), (0, .ref a), (1, .int (nI j))]) hx hb dX4_to_68 hl (k := 1) rfl (nI_1 k) (by decide) rfl (fun ls hl => ?_)
            refine lv_goto (tgt := 6) hx hb dX4_to_71 (by decide) ?_
            exact ih6 (k + 1) (tt k) (by omega) (by omega) (by simp [sT, h2, h3, h4, h5])  _ (lv_sub hl [0, 1, 2, 3] rfl)
      · refine lv_aload_n hx hb dX4_to_25 rfl (lv_at hl 2 rfl) ?_
        refine fa_get (D := D) (ci := 4) (v := .ref la) (C := RX4) (T := TX4) (N := 7) hx hb hts hinX4 hown hK hR.1 rfl 6 (by decide) (hts (.fieldLink RX4 34 "CairnShellsLaw$Sim" "later" "[[Z") (by decide +kernel)) (fun _ h9 => h9) rfl dX4_to_26 ?_
        refine lv_iload_n hx hb dX4_to_29 rfl (lv_at hl 0 rfl) ?_
        refine fa_aald 3 hx hb hK rfl rfl hR.2.2.1.1 rfl (by omega) (by omega) dX4_to_30 ?_
        refine lv_iload_n hx hb dX4_to_31 rfl (lv_at hl 3 rfl) ?_
        refine fa_zald (D := D) (j := j) hx hb hK (hR.2.2.1.2 k (by omega)) (by omega) (by omega) dX4_to_32 ?_
        refine my_ifeq_b (tgt := 68) hx hb dX4_to_33 (by decide) (fun h6 => ?_) (fun h6 => ?_)
        · refine lv_iinc (v := nI (k + 1)) (x := nI k) (lv' := [(3, .int (nI (k + 1))), (2, .int (sT fr tt (pT al be j) k)), (0, .ref a), (1, .int (nI j))]) hx hb dX4_to_68 hl (k := 0) rfl (nI_1 k) (by decide) rfl (fun ls hl => ?_)
          refine lv_goto (tgt := 6) hx hb dX4_to_71 (by decide) ?_
          exact ih6 (k + 1) (sT fr tt (pT al be j) k) (by omega) (by omega) (by simp [sT, h2, h3, h6])  _ (lv_sub hl [0, 1, 2, 3] rfl)
        · refine lv_aload_n hx hb dX4_to_36 rfl (lv_at hl 2 rfl) ?_
          refine fa_get (D := D) (ci := 4) (v := .ref he) (C := RX4) (T := TX4) (N := 7) hx hb hts hinX4 hown hK hR.1 rfl 4 (by decide) (hts (.fieldLink RX4 22 "CairnShellsLaw$Sim" "hearths" "[[I") (by decide +kernel)) (fun _ h9 => h9) rfl dX4_to_37 ?_
          refine lv_iload_n hx hb dX4_to_40 rfl (lv_at hl 0 rfl) ?_
          refine fa_aald 2 hx hb hK rfl rfl hR.2.2.2.1.1 rfl (by omega) (by omega) dX4_to_41 ?_
          refine lv_iconst (v := 0) hx hb dX4_to_42 (by decide) ?_
          refine fa_iald (D := D) (j := 0) hx hb hK (hR.2.2.2.1.2 k (by omega)) (by omega) (by omega) dX4_to_43 ?_
          refine W.eq (g2 := F0 m 44 ls [.int (fr k)]) rfl ?_
          refine lv_if_lt (tgt := 68) hx hb dX4_to_44 (by decide) (fun h7 => ?_) (fun h7 => ?_)
          · refine lv_iinc (v := nI (k + 1)) (x := nI k) (lv' := [(3, .int (nI (k + 1))), (2, .int (sT fr tt (pT al be j) k)), (0, .ref a), (1, .int (nI j))]) hx hb dX4_to_68 hl (k := 0) rfl (nI_1 k) (by decide) rfl (fun ls hl => ?_)
            refine lv_goto (tgt := 6) hx hb dX4_to_71 (by decide) ?_
            exact ih6 (k + 1) (sT fr tt (pT al be j) k) (by omega) (by omega) (by simp [sT, h2, h3, h6, h7])  _ (lv_sub hl [0, 1, 2, 3] rfl)
          · refine lv_aload_n hx hb dX4_to_47 rfl (lv_at hl 2 rfl) ?_
            refine fa_get (D := D) (ci := 4) (v := .ref he) (C := RX4) (T := TX4) (N := 7) hx hb hts hinX4 hown hK hR.1 rfl 4 (by decide) (hts (.fieldLink RX4 22 "CairnShellsLaw$Sim" "hearths" "[[I") (by decide +kernel)) (fun _ h9 => h9) rfl dX4_to_48 ?_
            refine lv_iload_n hx hb dX4_to_51 rfl (lv_at hl 0 rfl) ?_
            refine fa_aald 2 hx hb hK rfl rfl hR.2.2.2.1.1 rfl (by omega) (by omega) dX4_to_52 ?_
            refine lv_iconst (v := 1) hx hb dX4_to_53 (by decide) ?_
            refine fa_iald (D := D) (j := 1) hx hb hK (hR.2.2.2.1.2 k (by omega)) (by omega) (by omega) dX4_to_54 ?_
            refine W.eq (g2 := F0 m 55 ls [.int (tt k)]) rfl ?_
            refine lv_iload_n hx hb dX4_to_55 rfl (lv_at hl 1 rfl) ?_
            refine lv_icmp_ge (tgt := 68) hx hb dX4_to_56 (by decide) (fun h8 => ?_) (fun h8 => ?_)
            · refine lv_iinc (v := nI (k + 1)) (x := nI k) (lv' := [(3, .int (nI (k + 1))), (2, .int (sT fr tt (pT al be j) k)), (0, .ref a), (1, .int (nI j))]) hx hb dX4_to_68 hl (k := 0) rfl (nI_1 k) (by decide) rfl (fun ls hl => ?_)
              refine lv_goto (tgt := 6) hx hb dX4_to_71 (by decide) ?_
              exact ih6 (k + 1) (sT fr tt (pT al be j) k) (by omega) (by omega) (by simp [sT, h2, h3, h6, h7, h8])  _ (lv_sub hl [0, 1, 2, 3] rfl)
            · refine lv_aload_n hx hb dX4_to_59 rfl (lv_at hl 2 rfl) ?_
              refine fa_get (D := D) (ci := 4) (v := .ref he) (C := RX4) (T := TX4) (N := 7) hx hb hts hinX4 hown hK hR.1 rfl 4 (by decide) (hts (.fieldLink RX4 22 "CairnShellsLaw$Sim" "hearths" "[[I") (by decide +kernel)) (fun _ h9 => h9) rfl dX4_to_60 ?_
              refine lv_iload_n hx hb dX4_to_63 rfl (lv_at hl 0 rfl) ?_
              refine fa_aald 2 hx hb hK rfl rfl hR.2.2.2.1.1 rfl (by omega) (by omega) dX4_to_64 ?_
              refine lv_iconst (v := 1) hx hb dX4_to_65 (by decide) ?_
              refine fa_iald (D := D) (j := 1) hx hb hK (hR.2.2.2.1.2 k (by omega)) (by omega) (by omega) dX4_to_66 ?_
              refine W.eq (g2 := F0 m 67 ls [.int (tt k)]) rfl ?_
              refine lv_istore_n (lv' := [(2, .int (tt k)), (3, .int (nI k)), (0, .ref a), (1, .int (nI j))]) hx hb dX4_to_67 rfl hl (by decide) rfl (fun ls hl => ?_)
              refine lv_iinc (v := nI (k + 1)) (x := nI k) (lv' := [(3, .int (nI (k + 1))), (2, .int (tt k)), (0, .ref a), (1, .int (nI j))]) hx hb dX4_to_68 hl (k := 1) rfl (nI_1 k) (by decide) rfl (fun ls hl => ?_)
              refine lv_goto (tgt := 6) hx hb dX4_to_71 (by decide) ?_
              exact ih6 (k + 1) (tt k) (by omega) (by omega) (by simp [sT, h2, h3, h6, h7, h8])  _ (lv_sub hl [0, 1, 2, 3] rfl)
set_option maxHeartbeats 4000000 in
set_option maxRecDepth 100000 in
theorem c_X4_doubtful (l : Launch) {D : va_G} {cA : ClassId} {H0 : Heap} {a N ab sm fi he sa la : Nat} {rsa rla rhe rfi : Nat → Nat} {al be fr tt mn : Nat → Int32} (hN : N ≤ 14) (hR : SR D cA H0 a N ab sm fi he sa la rsa rla rhe rfi al be fr tt mn) : RO l yX4_doubtful wsX4_doubtful 1 23 [.ref a] D cA H0 (some (.int (nI (ct (sD N al be fr tt) N)))) := by
  refine RO_of (cc := cX4_doubtful) (maxL := 3) (ret := (some .int)) (by decide) rfl (Nat.le_of_ble_eq_true rfl) ?_
  intro p e s m below meth c ls hx hb hml hr hown hts hlk hH hK hl
  have hown : s.vm.findClass RX4 = some m.cls := hown
  have hl : lv_has ls 3 [(0, .ref a)] := hl
  have hinX4 : ∀ w ∈ wsX40, w ∈ wsX4_doubtful := fun w h9 => List.mem_cons_of_mem _ (List.mem_append_right _ h9)
  refine lv_iconst (v := 0) hx hb dX4_doubtful_0 (by decide) ?_
  refine lv_istore_n (lv' := [(1, .int 0), (0, .ref a)]) hx hb dX4_doubtful_1 rfl hl (by decide) rfl (fun ls hl => ?_)
  refine lv_iconst (v := 0) hx hb dX4_doubtful_2 (by decide) ?_
  refine lv_istore_n (lv' := [(2, .int 0), (1, .int 0), (0, .ref a)]) hx hb dX4_doubtful_3 rfl hl (by decide) rfl (fun ls hl => ?_)
  suffices lp4 : ∀ (n k : Nat) (y : Int32), k ≤ N → N < k + n → y = nI (ct (sD N al be fr tt) k) → ∀ ls, lv_has ls 3 [(2, .int (nI k)), (1, .int y), (0, .ref a)] → W p l e { frames := 1, cells := 0, slots := 0, locals := 23 } s m ([.ref a] : List Value).toArray below meth c H0 [] 0 0 (MQ below (roQ (some (.int (nI (ct (sD N al be fr tt) N)))) H0) ([.ref a] : List Value).toArray s 0 0 (fun _ => False)) (F0 m 4 ls []) from lp4 (N + 1) 0 0 (by omega) (by omega) (by first | rfl | (simp [ct]; done) | decide)  _ (lv_sub hl [0, 1, 2] rfl)
  intro n
  induction n with
  | zero => intro k y hk1 hk2; exact absurd hk2 (by omega)
  | succ n ih4 =>
    intro k y hk4 hn4 ey  ls hl
    subst ey
    refine lv_iload_n hx hb dX4_doubtful_4 rfl (lv_at hl 0 rfl) ?_
    refine lv_aload_n hx hb dX4_doubtful_5 rfl (lv_at hl 2 rfl) ?_
    refine fa_get (D := D) (ci := 4) (v := .int (nI N)) (C := RX4) (T := TX4) (N := 7) hx hb hts hinX4 hown hK hR.1 rfl 0 (by decide) (hts (.fieldLink RX4 25 "CairnShellsLaw$Sim" "n" "I") (by decide +kernel)) (fun _ h9 => h9) rfl dX4_doubtful_6 ?_
    refine my_geN (x := k) (y := N) (tgt := 39) hx hb dX4_doubtful_9 (by decide) (by omega) (by omega) (fun h2 => ?_) (fun h2 => ?_)
    · obtain rfl : N = k := by omega
      refine lv_iload_n hx hb dX4_doubtful_39 rfl (lv_at hl 1 rfl) ?_
      exact RO_zret hx hb hr hlk hH dX4_doubtful_40 (by rfl) rfl
    · refine lv_iload_n hx hb dX4_doubtful_12 rfl (lv_at hl 1 rfl) ?_
      suffices jn3 : ∀ ls, lv_has ls 3 [(2, .int (nI k)), (1, .int (nI (ct (sD N al be fr tt) k))), (0, .ref a)] → W p l e { frames := 1, cells := 0, slots := 0, locals := 23 } s m ([.ref a] : List Value).toArray below meth c H0 [] 0 0 (MQ below (roQ (some (.int (nI (ct (sD N al be fr tt) N)))) H0) ([.ref a] : List Value).toArray s 0 0 (fun _ => False)) (F0 m 31 ls [.int (nI (if sD N al be fr tt k then 1 else 0)), .int (nI (ct (sD N al be fr tt) k))]) by
        refine lv_aload_n hx hb dX4_doubtful_13 rfl (lv_at hl 2 rfl) ?_
        refine lv_iload_n hx hb dX4_doubtful_14 rfl (lv_at hl 0 rfl) ?_
        refine RO_go (va_runV (As := [.int (nI k)]) (rest := [.int (nI (ct (sD N al be fr tt) k))]) ⟨hx, hb, hml, hown, hts⟩ (c_X4_from l (D := D) (cA := cA) (H0 := H0) (j := k) hN (by omega) hR) (cwV 1 hts gX4_doubtful_X4_from rfl rfl rfl (by decide +kernel) ⟨Nat.le_of_ble_eq_true rfl, Nat.le_of_ble_eq_true rfl⟩) (cP_V hK (va_recv hK.1 (AT.one hR.1) (ci := 4) (q0 := 0) rfl rfl)) rfl rfl hl.1 rfl (lv_room (Nat.le_of_ble_eq_true rfl)) dX4_doubtful_15 ⟨by show _ ≤ 0; omega, by show _ ≤ 0; omega⟩) ?_
        refine lv_aload_n hx hb dX4_doubtful_18 rfl (lv_at hl 2 rfl) ?_
        refine lv_iload_n hx hb dX4_doubtful_19 rfl (lv_at hl 0 rfl) ?_
        refine RO_go (va_runV (As := [.int (nI k)]) (rest := [.int (sF fr (pF al be k) N), .int (nI (ct (sD N al be fr tt) k))]) ⟨hx, hb, hml, hown, hts⟩ (c_X4_to l (D := D) (cA := cA) (H0 := H0) (j := k) hN (by omega) hR) (cwV 1 hts gX4_doubtful_X4_to rfl rfl rfl (by decide +kernel) ⟨Nat.le_of_ble_eq_true rfl, Nat.le_of_ble_eq_true rfl⟩) (cP_V hK (va_recv hK.1 (AT.one hR.1) (ci := 4) (q0 := 0) rfl rfl)) rfl rfl hl.1 rfl (lv_room (Nat.le_of_ble_eq_true rfl)) dX4_doubtful_20 ⟨by show _ ≤ 0; omega, by show _ ≤ 0; omega⟩) ?_
        refine lv_icmp_le (tgt := 30) hx hb dX4_doubtful_23 (by decide) (fun h4 => ?_) (fun h4 => ?_)
        · refine lv_iconst (v := 0) hx hb dX4_doubtful_30 (by decide) ?_
          have e9 : (0 : Int32) = nI (if sD N al be fr tt k then 1 else 0) := (by first | exact bN_t (by simp [sD, h2, h4]) | exact bN_f (by simp [sD, h2, h4]))
          exact W.eq (congrArg (fun v9 => F0 m 31 ls [.int v9, .int (nI (ct (sD N al be fr tt) k))]) e9) (jn3 _ hl)
        · refine lv_iconst (v := 1) hx hb dX4_doubtful_26 (by decide) ?_
          refine lv_goto (tgt := 31) hx hb dX4_doubtful_27 (by decide) ?_
          have e9 : (1 : Int32) = nI (if sD N al be fr tt k then 1 else 0) := (by first | exact bN_t (by simp [sD, h2, h4]) | exact bN_f (by simp [sD, h2, h4]))
          exact W.eq (congrArg (fun v9 => F0 m 31 ls [.int v9, .int (nI (ct (sD N al be fr tt) k))]) e9) (jn3 _ hl)
      intro ls hl
      refine my_iaddN (x := ct (sD N al be fr tt) k) (y := (if sD N al be fr tt k then 1 else 0)) hx hb dX4_doubtful_31 ?_
      refine lv_istore_n (lv' := [(1, .int (nI ((ct (sD N al be fr tt) k) + (if sD N al be fr tt k then 1 else 0)))), (2, .int (nI k)), (0, .ref a)]) hx hb dX4_doubtful_32 rfl hl (by decide) rfl (fun ls hl => ?_)
      refine lv_iinc (v := nI (k + 1)) (x := nI k) (lv' := [(2, .int (nI (k + 1))), (1, .int (nI ((ct (sD N al be fr tt) k) + (if sD N al be fr tt k then 1 else 0)))), (0, .ref a)]) hx hb dX4_doubtful_33 hl (k := 1) rfl (nI_1 k) (by decide) rfl (fun ls hl => ?_)
      refine lv_goto (tgt := 4) hx hb dX4_doubtful_36 (by decide) ?_
      exact ih4 (k + 1) (nI ((ct (sD N al be fr tt) k) + (if sD N al be fr tt k then 1 else 0))) (by omega) (by omega) (by first | rfl | simp [h2])  _ (lv_sub hl [0, 1, 2] rfl)
set_option maxHeartbeats 4000000 in
set_option maxRecDepth 100000 in
theorem c_X4_pairs (l : Launch) {D : va_G} {cA : ClassId} {H0 : Heap} {a N ab sm fi he sa la : Nat} {rsa rla rhe rfi : Nat → Nat} {al be fr tt mn : Nat → Int32} (hN : N ≤ 14) (hR : SR D cA H0 a N ab sm fi he sa la rsa rla rhe rfi al be fr tt mn) : RO l yX4_pairs wsX4_pairs 0 0 [.ref a] D cA H0 (some (.int (nI (pB be N N)))) := by
  refine RO_of (cc := cX4_pairs) (maxL := 10) (ret := (some .int)) (by decide) rfl (Nat.le_of_ble_eq_true rfl) ?_
  intro p e s m below meth c ls hx hb hml hr hown hts hlk hH hK hl
  have hown : s.vm.findClass RX4 = some m.cls := hown
  have hl : lv_has ls 10 [(0, .ref a)] := hl
  have hinX4 : ∀ w ∈ wsX40, w ∈ wsX4_pairs := fun w h9 => List.mem_cons_of_mem _ (List.mem_append_right _ h9)
  refine lv_iconst (v := 0) hx hb dX4_pairs_0 (by decide) ?_
  refine lv_istore_n (lv' := [(1, .int 0), (0, .ref a)]) hx hb dX4_pairs_1 rfl hl (by decide) rfl (fun ls hl => ?_)
  refine lv_aload_n hx hb dX4_pairs_2 rfl (lv_at hl 1 rfl) ?_
  refine fa_get (D := D) (ci := 4) (v := .ref la) (C := RX4) (T := TX4) (N := 7) hx hb hts hinX4 hown hK hR.1 rfl 6 (by decide) (hts (.fieldLink RX4 34 "CairnShellsLaw$Sim" "later" "[[Z") (by decide +kernel)) (fun _ h9 => h9) rfl dX4_pairs_3 ?_
  refine lv_astore_n (lv' := [(2, .ref la), (1, .int 0), (0, .ref a)]) hx hb dX4_pairs_6 rfl hl (by decide) rfl (fun ls hl => ?_)
  refine lv_aload_n hx hb dX4_pairs_7 rfl (lv_at hl 0 rfl) ?_
  refine fa_alen 3 hx hb hK rfl hR.2.2.1.1 dX4_pairs_8 ?_
  refine W.eq (g2 := F0 m 9 ls [.int (nI N)]) rfl ?_
  refine lv_istore_n (lv' := [(3, .int (nI N)), (2, .ref la), (1, .int 0), (0, .ref a)]) hx hb dX4_pairs_9 rfl hl (by decide) rfl (fun ls hl => ?_)
  refine lv_iconst (v := 0) hx hb dX4_pairs_10 (by decide) ?_
  refine lv_istore (lv' := [(4, .int 0), (3, .int (nI N)), (2, .ref la), (1, .int 0), (0, .ref a)]) hx hb dX4_pairs_11 hl (by decide) rfl (fun ls hl => ?_)
  suffices lp13 : ∀ (n k : Nat) (y : Int32), k ≤ N → N < k + n → y = nI (pB be N k) → ∀ ls, lv_has ls 10 [(4, .int (nI k)), (3, .int (nI N)), (2, .ref la), (1, .int y), (0, .ref a)] → W p l e { frames := 0, cells := 0, slots := 0, locals := 0 } s m ([.ref a] : List Value).toArray below meth c H0 [] 0 0 (MQ below (roQ (some (.int (nI (pB be N N)))) H0) ([.ref a] : List Value).toArray s 0 0 (fun _ => False)) (F0 m 13 ls []) from lp13 (N + 1) 0 0 (by omega) (by omega) (by first | rfl | (simp [pB]; done) | decide)  _ (lv_sub hl [0, 1, 2, 3, 4] rfl)
  intro n
  induction n with
  | zero => intro k y hk1 hk2; exact absurd hk2 (by omega)
  | succ n ih13 =>
    intro k y hk13 hn13 ey  ls hl
    subst ey
    refine lv_iload hx hb dX4_pairs_13 (lv_at hl 0 rfl) ?_
    refine lv_iload_n hx hb dX4_pairs_15 rfl (lv_at hl 1 rfl) ?_
    refine my_geN (x := k) (y := N) (tgt := 76) hx hb dX4_pairs_16 (by decide) (by omega) (by omega) (fun h2 => ?_) (fun h2 => ?_)
    · obtain rfl : N = k := by omega
      refine lv_iload_n hx hb dX4_pairs_76 rfl (lv_at hl 3 rfl) ?_
      exact RO_zret hx hb hr hlk hH dX4_pairs_77 (by rfl) rfl
    · refine lv_aload_n hx hb dX4_pairs_19 rfl (lv_at hl 2 rfl) ?_
      refine lv_iload hx hb dX4_pairs_20 (lv_at hl 0 rfl) ?_
      refine fa_aald 3 hx hb hK rfl rfl hR.2.2.1.1 rfl (by omega) (by omega) dX4_pairs_22 ?_
      refine lv_astore (lv' := [(5, .ref (rla k)), (4, .int (nI k)), (3, .int (nI N)), (2, .ref la), (1, .int (nI (pB be N k))), (0, .ref a)]) hx hb dX4_pairs_23 hl (by decide) rfl (fun ls hl => ?_)
      refine lv_aload hx hb dX4_pairs_25 (lv_at hl 0 rfl) ?_
      refine lv_astore (lv' := [(6, .ref (rla k)), (5, .ref (rla k)), (4, .int (nI k)), (3, .int (nI N)), (2, .ref la), (1, .int (nI (pB be N k))), (0, .ref a)]) hx hb dX4_pairs_27 hl (by decide) rfl (fun ls hl => ?_)
      refine lv_aload hx hb dX4_pairs_29 (lv_at hl 0 rfl) ?_
      refine fa_alen 1 hx hb hK rfl (hR.2.2.1.2 k (by omega)) dX4_pairs_31 ?_
      refine W.eq (g2 := F0 m 32 ls [.int (nI N)]) rfl ?_
      refine lv_istore (lv' := [(7, .int (nI N)), (6, .ref (rla k)), (5, .ref (rla k)), (4, .int (nI k)), (3, .int (nI N)), (2, .ref la), (1, .int (nI (pB be N k))), (0, .ref a)]) hx hb dX4_pairs_32 hl (by decide) rfl (fun ls hl => ?_)
      refine lv_iconst (v := 0) hx hb dX4_pairs_34 (by decide) ?_
      refine lv_istore (lv' := [(8, .int 0), (7, .int (nI N)), (6, .ref (rla k)), (5, .ref (rla k)), (4, .int (nI k)), (3, .int (nI N)), (2, .ref la), (1, .int (nI (pB be N k))), (0, .ref a)]) hx hb dX4_pairs_35 hl (by decide) rfl (fun ls hl => ?_)
      suffices lp37 : ∀ (n q : Nat) (z : Int32), q ≤ N → N < q + n → z = nI (pB be N k + ct (bt (be k)) q) → ∀ ls, lv_has ls 10 [(8, .int (nI q)), (7, .int (nI N)), (6, .ref (rla k)), (5, .ref (rla k)), (4, .int (nI k)), (3, .int (nI N)), (2, .ref la), (1, .int z), (0, .ref a)] → W p l e { frames := 0, cells := 0, slots := 0, locals := 0 } s m ([.ref a] : List Value).toArray below meth c H0 [] 0 0 (MQ below (roQ (some (.int (nI (pB be N N)))) H0) ([.ref a] : List Value).toArray s 0 0 (fun _ => False)) (F0 m 37 ls []) from lp37 (N + 1) 0 (nI (pB be N k)) (by omega) (by omega) (by first | rfl | (simp [ct]; done) | decide)  _ (lv_sub hl [0, 1, 2, 3, 4, 5, 6, 7, 8] rfl)
      intro n
      induction n with
      | zero => intro q z hk1 hk2; exact absurd hk2 (by omega)
      | succ n ih37 =>
        intro q z hk37 hn37 ez  ls hl
        subst ez
        refine lv_iload hx hb dX4_pairs_37 (lv_at hl 0 rfl) ?_
        refine lv_iload hx hb dX4_pairs_39 (lv_at hl 1 rfl) ?_
        refine my_geN (x := q) (y := N) (tgt := 70) hx hb dX4_pairs_41 (by decide) (by omega) (by omega) (fun h4 => ?_) (fun h4 => ?_)
        · obtain rfl : N = q := by omega
          refine lv_iinc (v := nI (k + 1)) (x := nI k) (lv' := [(4, .int (nI (k + 1))), (8, .int (nI N)), (7, .int (nI N)), (6, .ref (rla k)), (5, .ref (rla k)), (3, .int (nI N)), (2, .ref la), (1, .int (nI (pB be N k + ct (bt (be k)) N))), (0, .ref a)]) hx hb dX4_pairs_70 hl (k := 4) rfl (nI_1 k) (by decide) rfl (fun ls hl => ?_)
          refine lv_goto (tgt := 13) hx hb dX4_pairs_73 (by decide) ?_
          exact ih13 (k + 1) (nI (pB be N k + ct (bt (be k)) N)) (by omega) (by omega) rfl  _ (lv_sub hl [0, 5, 6, 7, 8] rfl)
        · refine lv_aload hx hb dX4_pairs_44 (lv_at hl 2 rfl) ?_
          refine lv_iload hx hb dX4_pairs_46 (lv_at hl 0 rfl) ?_
          refine fa_zald (D := D) (j := q) hx hb hK (hR.2.2.1.2 k (by omega)) (by omega) (by omega) dX4_pairs_48 ?_
          refine lv_istore (lv' := [(9, .int (bI (bt (be k) q))), (8, .int (nI q)), (7, .int (nI N)), (6, .ref (rla k)), (5, .ref (rla k)), (4, .int (nI k)), (3, .int (nI N)), (2, .ref la), (1, .int (nI (pB be N k + ct (bt (be k)) q))), (0, .ref a)]) hx hb dX4_pairs_49 hl (by decide) rfl (fun ls hl => ?_)
          refine lv_iload_n hx hb dX4_pairs_51 rfl (lv_at hl 8 rfl) ?_
          suffices jn5 : ∀ ls, lv_has ls 10 [(9, .int (bI (bt (be k) q))), (8, .int (nI q)), (7, .int (nI N)), (6, .ref (rla k)), (5, .ref (rla k)), (4, .int (nI k)), (3, .int (nI N)), (2, .ref la), (1, .int (nI (pB be N k + ct (bt (be k)) q))), (0, .ref a)] → W p l e { frames := 0, cells := 0, slots := 0, locals := 0 } s m ([.ref a] : List Value).toArray below meth c H0 [] 0 0 (MQ below (roQ (some (.int (nI (pB be N N)))) H0) ([.ref a] : List Value).toArray s 0 0 (fun _ => False)) (F0 m 62 ls [.int (nI (if bt (be k) q then 1 else 0)), .int (nI (pB be N k + ct (bt (be k)) q))]) by
            refine lv_iload hx hb dX4_pairs_52 (lv_at hl 0 rfl) ?_
            refine my_ifeq_b (tgt := 61) hx hb dX4_pairs_54 (by decide) (fun h6 => ?_) (fun h6 => ?_)
            · refine lv_iconst (v := 0) hx hb dX4_pairs_61 (by decide) ?_
              have e9 : (0 : Int32) = nI (if bt (be k) q then 1 else 0) := (by first | exact bN_f h6 | exact bN_f (by simp [h2, h4, h6]))
              exact W.eq (congrArg (fun v9 => F0 m 62 ls [.int v9, .int (nI (pB be N k + ct (bt (be k)) q))]) e9) (jn5 _ hl)
            · refine lv_iconst (v := 1) hx hb dX4_pairs_57 (by decide) ?_
              refine lv_goto (tgt := 62) hx hb dX4_pairs_58 (by decide) ?_
              have e9 : (1 : Int32) = nI (if bt (be k) q then 1 else 0) := (by first | exact bN_t h6 | exact bN_t (by simp [h2, h4, h6]))
              exact W.eq (congrArg (fun v9 => F0 m 62 ls [.int v9, .int (nI (pB be N k + ct (bt (be k)) q))]) e9) (jn5 _ hl)
          intro ls hl
          refine my_iaddN (x := pB be N k + ct (bt (be k)) q) (y := (if bt (be k) q then 1 else 0)) hx hb dX4_pairs_62 ?_
          refine lv_istore_n (lv' := [(1, .int (nI ((pB be N k + ct (bt (be k)) q) + (if bt (be k) q then 1 else 0)))), (9, .int (bI (bt (be k) q))), (8, .int (nI q)), (7, .int (nI N)), (6, .ref (rla k)), (5, .ref (rla k)), (4, .int (nI k)), (3, .int (nI N)), (2, .ref la), (0, .ref a)]) hx hb dX4_pairs_63 rfl hl (by decide) rfl (fun ls hl => ?_)
          refine lv_iinc (v := nI (q + 1)) (x := nI q) (lv' := [(8, .int (nI (q + 1))), (1, .int (nI ((pB be N k + ct (bt (be k)) q) + (if bt (be k) q then 1 else 0)))), (9, .int (bI (bt (be k) q))), (7, .int (nI N)), (6, .ref (rla k)), (5, .ref (rla k)), (4, .int (nI k)), (3, .int (nI N)), (2, .ref la), (0, .ref a)]) hx hb dX4_pairs_64 hl (k := 2) rfl (nI_1 q) (by decide) rfl (fun ls hl => ?_)
          refine lv_goto (tgt := 37) hx hb dX4_pairs_67 (by decide) ?_
          exact ih37 (q + 1) (nI ((pB be N k + ct (bt (be k)) q) + (if bt (be k) q then 1 else 0))) (by omega) (by omega) bN_ct  _ (lv_sub hl [0, 3, 4, 5, 6, 7, 8, 1, 9] rfl)
