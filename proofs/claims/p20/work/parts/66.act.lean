set_option maxHeartbeats 4000000 in
set_option maxRecDepth 100000 in
theorem c_L_act (l : Launch) {D : va_G} {cA : ClassId} {H0 : Heap} {S0 a B : Nat} {ad : Nat → Nat} {x : Int32} (hX : LX D cA S0 ad a B H0) (hBn : B ≤ 190) : LQ l yL_act wsL_act 5 115 60 900 [.ref (ad 0), .ref a, .int x] D cA H0 (fun q => S0 ≤ q) (fun v H1 => v = some (.int 1) ∧ LX D cA S0 ad a (B + 1) H1) := by
  refine LQ_of (cc := cL_act) (maxL := 13) (ret := (some .boolean)) (by decide) rfl (Nat.le_of_ble_eq_true rfl) ?_
  intro p e s m below meth c ls hx hb hml hr hown hts hlk hH hK hl
  have hown : s.vm.findClass RL = some m.cls := hown
  have hl : lv_has ls 13 [(0, .ref (ad 0)), (1, .ref a), (2, .int x)] := hl
  have hinX0 : ∀ w ∈ wsX00, w ∈ wsL_act := fun w h9 => List.mem_cons_of_mem _ (List.mem_append_left _ (List.mem_append_left _ (List.mem_append_left _ (List.mem_append_right _ h9))))
  have hinX1 : ∀ w ∈ wsX10, w ∈ wsL_act := fun w h9 => List.mem_cons_of_mem _ (List.mem_append_left _ (List.mem_append_left _ (List.mem_append_left _ (List.mem_append_left _ (List.mem_append_right _ h9)))))
  have hinX2 : ∀ w ∈ wsX20, w ∈ wsL_act := fun w h9 => List.mem_cons_of_mem _ (List.mem_append_left _ (List.mem_append_left _ (List.mem_append_left _ (List.mem_append_left _ (List.mem_append_left _ (List.mem_append_right _ h9))))))
  have hinX3 : ∀ w ∈ wsX30, w ∈ wsL_act := fun w h9 => List.mem_cons_of_mem _ (List.mem_append_left _ (List.mem_append_left _ (List.mem_append_left _ (List.mem_append_left _ (List.mem_append_left _ (List.mem_append_left _ (List.mem_append_right _ h9)))))))
  have hinX4 : ∀ w ∈ wsX40, w ∈ wsL_act := fun w h9 => List.mem_cons_of_mem _ (List.mem_append_left _ (List.mem_append_left _ (List.mem_append_left _ (List.mem_append_left _ (List.mem_append_left _ (List.mem_append_left _ (List.mem_append_left _ (List.mem_append_right _ h9))))))))
  have hS : va_S (fun q => S0 ≤ q) H0 H0 [] := va_S.rf
  have hE : EX H0 H0 := KP.rf
  have hP : va_P D vwCl [] H0 := fun k q h => by simp at h
  have hD : va_D (fun q => S0 ≤ q) [] := ⟨fun i j p q h => by simp at h, fun k q h => by simp at h⟩
  obtain ⟨N, hN0, al, be, to, od, ph, mn, bu, fi, la, tb, tf, tl, fr, tt, mA, ax, ay, mS, sx, sy, ab, sm, fo, ho, rfi, rhe, rab, rsm, v5, v6, ro, hU, hC, hD, hO, hB, hro⟩ := hX
  have hN12 := hU.2.1
  have hmm := hU.2.2.2.2.2
  have hmS : mS ≤ 200 := by omega
  have hmA : mA ≤ 200 := by omega
  have hz : S0 ≤ H0.size := by have h1 := hro.S (q := a) (by rw [hro.2.2.1]; decide); have h2 := AT.lt hO; omega
  refine lv_aload_n hx hb dL_act_0 rfl (lv_at hl 1 rfl) ?_
  refine fa_get (D := D) (ci := 4) (v := .int (nI N)) (C := RX4) (T := TX4) (N := 7) hx hb hts hinX4 hown hK hO rfl 0 (by decide) (hts (.fieldLink RL 9 "CairnShellsLaw$Sim" "n" "I") (by decide +kernel)) (fun _ h9 => h9) rfl dL_act_1 ?_
  refine lv_istore_n (lv' := [(3, .int (nI N)), (0, .ref (ad 0)), (1, .ref a), (2, .int x)]) hx hb dL_act_4 rfl hl (by decide) rfl (fun ls hl => ?_)
  refine lv_iload_n hx hb dL_act_5 rfl (lv_at hl 0 rfl) ?_
  refine lv_if_ne (tgt := 13) hx hb dL_act_6 (by decide) (fun _ => ?_) (fun h9 => absurd h9 (nI_ne0 hN0 (by omega)))
  refine lv_iload_n hx hb dL_act_13 rfl (lv_at hl 3 rfl) ?_
  refine lv_iload_n hx hb dL_act_14 rfl (lv_at hl 0 rfl) ?_
  refine RO_go (va_runS (As := [.int x, .int (nI N)]) (rest := []) ⟨hx, hb, hml, hown, hts⟩ (c_L_below l (D := D) (cA := cA) (H0 := H0) x N (by omega) (by omega)) (va_cwS 2 hts gL_act_L_below rfl rfl rfl (by decide +kernel) ⟨Nat.le_of_ble_eq_true rfl, Nat.le_of_ble_eq_true rfl⟩) (cP_S hK) rfl rfl hl.1 rfl (lv_room (Nat.le_of_ble_eq_true rfl)) dL_act_15 ⟨by show _ ≤ 60; omega, by show _ ≤ 900; omega⟩) ?_
  obtain ⟨kb15, hkb15, ekb15⟩ := bel_ex x (u := N) (by omega) (by omega)
  rw [ekb15]
  refine lv_istore (lv' := [(4, .int (nI kb15)), (3, .int (nI N)), (0, .ref (ad 0)), (1, .ref a), (2, .int x)]) hx hb dL_act_18 hl (by decide) rfl (fun ls hl => ?_)
  refine lv_iload_n hx hb dL_act_20 rfl (lv_at hl 1 rfl) ?_
  refine lv_if_ne (tgt := 28) hx hb dL_act_21 (by decide) (fun _ => ?_) (fun h9 => absurd h9 (nI_ne0 hN0 (by omega)))
  refine lv_iload_n hx hb dL_act_28 rfl (lv_at hl 4 rfl) ?_
  refine lv_iconst (v := 3) hx hb dL_act_29 (by decide) ?_
  refine lv_ishr hx hb dL_act_30 ?_
  refine lv_iload_n hx hb dL_act_31 rfl (lv_at hl 1 rfl) ?_
  refine RO_go (va_runS (As := [.int ((x : Int32) >>> (3 &&& 31)), .int (nI N)]) (rest := []) ⟨hx, hb, hml, hown, hts⟩ (c_L_below l (D := D) (cA := cA) (H0 := H0) ((x : Int32) >>> (3 &&& 31)) N (by omega) (by omega)) (va_cwS 2 hts gL_act_L_below rfl rfl rfl (by decide +kernel) ⟨Nat.le_of_ble_eq_true rfl, Nat.le_of_ble_eq_true rfl⟩) (cP_S hK) rfl rfl hl.1 rfl (lv_room (Nat.le_of_ble_eq_true rfl)) dL_act_32 ⟨by show _ ≤ 60; omega, by show _ ≤ 900; omega⟩) ?_
  obtain ⟨kb32, hkb32, ekb32⟩ := bel_ex ((x : Int32) >>> (3 &&& 31)) (u := N) (by omega) (by omega)
  rw [ekb32]
  refine lv_istore (lv' := [(5, .int (nI kb32)), (4, .int (nI kb15)), (3, .int (nI N)), (0, .ref (ad 0)), (1, .ref a), (2, .int x)]) hx hb dL_act_35 hl (by decide) rfl (fun ls hl => ?_)
  refine lv_aload_n hx hb dL_act_37 rfl (lv_at hl 4 rfl) ?_
  refine LQ_go (va_runV (As := []) (rest := []) ⟨hx, hb, hml, hown, hts⟩ (c_X4_reckon l (D := D) (cA := cA) (H0 := H0) (a := a) hU.2.1 hN0 hU.1.R hU.2.2.1 hU.2.2.2.1 hmS hmA hO hB.1 hB.2.1 (rne hro hro.2.2.2.1 (by decide)) (rne hro hro.2.2.2.2.1 (by decide)) (fun i hi => rne hro (hro.2.2.2.2.2.2.2.2.2.1 i hi) (by decide)) (fun i hi => rne hro (hro.2.2.2.2.2.2.2.2.2.2.1 i hi) (by decide))) (cwV 0 hts gL_act_X4_reckon rfl rfl rfl (by decide +kernel) ⟨Nat.le_of_ble_eq_true rfl, Nat.le_of_ble_eq_true rfl⟩) (cP_V hK (va_recv hK.1 (AT.one hO) (ci := 4) (q0 := 0) rfl rfl)) rfl rfl hl.1 rfl (lv_room (Nat.le_of_ble_eq_true rfl)) dL_act_38 ⟨by show _ ≤ 60; omega, by show _ ≤ 900; omega⟩) hS (fun q h => Or.elim h (fun e9 => by rw [e9]; exact hro.S (by rw [hro.2.2.1]; decide)) (fun z => Nat.le_trans hz z)) (fun v9 H3 locs hp9 hk9 hS => ?_)
  obtain ⟨rfl, sa1, lb1, rsa1, rla1, hO9, hGs, hGl, hz1, hz2, hz3, hz4⟩ := hp9
  have hro9 := hro.new hC hO hB (fun _ => 9)
  have hk8 := hro.a1 (K := fun _ _ => True) hk9
  have hC : va_P D vwCl (WX cA ad N al be to od ph mn bu fi la tb tf tl) H3 := cls_kp hro hk8 (by decide) hC
  have hB : SB D cA H3 ab sm fo ho rfi rhe rab rsm mA ax ay mS sx sy mn fr tt := SB.kp hro hk8 (by decide) hB
  have hO : SO D H3 a N ab sm fo ho (.ref sa1) (.ref lb1) := hO9
  have hGs : GZ D H3 sa1 N rsa1 (fun i j => bt (al i) j) := hGs
  have hGl : GZ D H3 lb1 N rla1 (fun i j => bt (be i) j) := hGl
  have hz := Nat.le_trans hz hk9.1
  clear hro
  obtain ⟨ro, hro, hgr⟩ : ∃ ro : Nat → Nat, RR ro S0 ad a ab sm fo ho rfi rhe rab rsm mA mS ∧ GR ro sa1 lb1 N rsa1 rla1 := ⟨_, hro9, gr9_new hz1 hz2 hz3 hz4⟩
  refine W.eq (g2 := F0 m 41 ls [.ref a]) rfl ?_
  refine lv_pop hx hb dL_act_41 rfl ?_
  refine lv_iload_n hx hb dL_act_42 rfl (lv_at hl 2 rfl) ?_
  refine lv_if_ne (tgt := 50) hx hb dL_act_43 (by decide) (fun _ => ?_) (fun h9 => absurd h9 (nI_ne0 hN0 (by omega)))
  refine lv_iload_n hx hb dL_act_50 rfl (lv_at hl 5 rfl) ?_
  refine lv_bipush (v := 9) hx hb dL_act_51 (by decide) ?_
  refine lv_ishr hx hb dL_act_53 ?_
  refine lv_bipush (v := 16) hx hb dL_act_54 (by decide) ?_
  refine RO_go (va_runS (As := [.int ((x : Int32) >>> (9 &&& 31)), .int 16]) (rest := []) ⟨hx, hb, hml, hown, hts⟩ (c_L_below l (D := D) (cA := cA) (H0 := H3) ((x : Int32) >>> (9 &&& 31)) 16 (by omega) (by omega)) (va_cwS 2 hts gL_act_L_below rfl rfl rfl (by decide +kernel) ⟨Nat.le_of_ble_eq_true rfl, Nat.le_of_ble_eq_true rfl⟩) (cP_S hK) rfl rfl hl.1 rfl (lv_room (Nat.le_of_ble_eq_true rfl)) dL_act_56 ⟨by show _ ≤ 60; omega, by show _ ≤ 900; omega⟩) ?_
  obtain ⟨kb56, hkb56, ekb56⟩ := bel_ex ((x : Int32) >>> (9 &&& 31)) (u := 16) (by omega) (by omega)
  rw [ekb56]
  have t116 : W p l e { frames := 5, cells := 60, slots := 900, locals := 115 } s m ([.ref (ad 0), .ref a, .int x] : List Value).toArray below meth c H3 locs (0 + 26) (0 + 312) (MQ below (lqQ (fun v H1 => v = some (.int 1) ∧ LX D cA S0 ad a (B + 1) H1) (fun q => S0 ≤ q) H0) ([.ref (ad 0), .ref a, .int x] : List Value).toArray s 60 900 (fun q => S0 ≤ q)) (F0 m 116 ls []) := by
    refine lv_iload_n hx hb dL_act_116 rfl (lv_at hl 2 rfl) ?_
    refine lv_bipush (v := 12) hx hb dL_act_117 (by decide) ?_
    refine my_neN (x := N) (y := 12) (tgt := 124) hx hb dL_act_119 (by decide) (by omega) (by omega) (fun h5 => ?_) (fun h5 => ?_)
    · refine lv_aload_n hx hb dL_act_124 rfl (lv_at hl 4 rfl) ?_
      refine lv_dup hx hb dL_act_125 rfl ?_
      refine fa_get (D := D) (ci := 4) (v := .int (nI N)) (C := RX4) (T := TX4) (N := 7) hx hb hts hinX4 hown hK hO rfl 0 (by decide) (hts (.fieldLink RL 9 "CairnShellsLaw$Sim" "n" "I") (by decide +kernel)) (fun _ h9 => h9) rfl dL_act_126 ?_
      refine lv_iconst (v := 1) hx hb dL_act_129 (by decide) ?_
      refine my_iaddN (x := N) (y := 1) hx hb dL_act_130 ?_
      refine fa_put (D := D) (ci := 4) (v := .int (nI (N + 1))) (ty := .int) (C := RX4) (T := TX4) (N := 7) hx hb hts hinX4 tyX4 tyX4_ok nmX4 hown hK hO hS (hro.S (by rw [hro.2.2.1]; decide)) rfl 0 (by decide) (hts (.fieldLink RL 9 "CairnShellsLaw$Sim" "n" "I") (by decide +kernel)) (fun _ h9 => h9) rfl (by decide +kernel) rfl rfl (Nat.le_of_ble_eq_true rfl) dL_act_131 (fun H6 locs hO ho9 hS => ?_)
      have hk9 := RR.on hro.2.2.1 ho9
      have hC : va_P D vwCl (WX cA ad N al be to od ph mn bu fi la tb tf tl) H6 := cls_kp hro hk9 (by decide) hC
      have hB : SB D cA H6 ab sm fo ho rfi rhe rab rsm mA ax ay mS sx sy mn fr tt := SB.kp hro hk9 (by decide) hB
      have hGs : GZ D H6 sa1 N rsa1 (fun i j => bt (al i) j) := hGs.rr hk9 (by decide) hgr.1 hgr.2.2.1
      have hGl : GZ D H6 lb1 N rla1 (fun i j => bt (be i) j) := hGl.rr hk9 (by decide) hgr.2.1 hgr.2.2.2
      have hz : S0 ≤ H6.size := Nat.le_trans hz hk9.1
      have hO : SO D H6 a (N + 1) ab sm fo ho (.ref sa1) (.ref lb1) := hO
      have hU2 := hU.find (by omega)
      refine lv_aload_n hx hb dL_act_134 rfl (lv_at hl 3 rfl) ?_
      refine WRL_go (va_runV (As := []) (rest := []) ⟨hx, hb, hml, hown, hts⟩ (k_find l  hU.1 hC hD (by omega)) (cwV 0 hts gL_act_X3_find rfl rfl rfl (by decide +kernel) ⟨Nat.le_of_ble_eq_true rfl, Nat.le_of_ble_eq_true rfl⟩) (cP_V hK (va_recv hK.1 (AT.one (hC 0 _ rfl)) (ci := 3) (q0 := 0) rfl rfl)) rfl rfl hl.1 rfl (lv_room (Nat.le_of_ble_eq_true rfl)) dL_act_135 ⟨by show _ ≤ 60; omega, by show _ ≤ 900; omega⟩) hS (hro.clsA hz) (fun H7 locs hC9 hk9 hS => ?_)
      have hk9 := hro.cls hk9
      have hO : SO D H7 a (N + 1) ab sm fo ho (.ref sa1) (.ref lb1) := KP.at hk9 hO (fun z => absurd (hro.2.2.1.symm.trans z) (by decide))
      have hB : SB D cA H7 ab sm fo ho rfi rhe rab rsm mA ax ay mS sx sy mn fr tt := SB.kp hro hk9 (by decide) hB
      have hGs : GZ D H7 sa1 N rsa1 (fun i j => bt (al i) j) := hGs.rr hk9 (by decide) hgr.1 hgr.2.2.1
      have hGl : GZ D H7 lb1 N rla1 (fun i j => bt (be i) j) := hGl.rr hk9 (by decide) hgr.2.1 hgr.2.2.2
      have hz : S0 ≤ H7.size := Nat.le_trans hz hk9.1
      have hC : va_P D vwCl (WX cA ad (N + 1) (upd al N ((1 : Int32) <<< (nI N &&& 31))) be to (arO (N + 1) be od (N + 1)) (arP (N + 1) be ph (N + 1)) mn bu fi la tb tf tl) H7 := hC9
      have hD : va_D (fun _ => True) (WX cA ad (N + 1) (upd al N ((1 : Int32) <<< (nI N &&& 31))) be to (arO (N + 1) be od (N + 1)) (arP (N + 1) be ph (N + 1)) mn bu fi la tb tf tl) := hD.adr rfl
      refine W.eq (g2 := F0 m 138 ls [.int (nI N)]) rfl ?_
      refine lv_iload_n hx hb dL_act_138 rfl (lv_at hl 2 rfl) ?_
      refine my_neN (x := N) (y := N) (tgt := 146) hx hb dL_act_139 (by decide) (by omega) (by omega) (fun h9 => absurd rfl h9) (fun _ => ?_)
      refine lv_iconst (v := 1) hx hb dL_act_142 (by decide) ?_
      refine lv_goto (tgt := 147) hx hb dL_act_143 (by decide) ?_
      exact LQ_zret hx hb hr hlk dL_act_147 (by omega) (by omega) ⟨rfl, (N + 1), (Nat.succ_pos _), LV.mk (hU2.up (by omega)) hC hD hO hB hro⟩ hS (by decide)
    · refine lv_iconst (v := 1) hx hb dL_act_122 (by decide) ?_
      exact LQ_zret hx hb hr hlk dL_act_123 (by omega) (by omega) ⟨rfl, N, hN0, LV.mk (hU.up (by omega)) hC hD hO hB hro⟩ hS (by decide)
  have t148 : W p l e { frames := 5, cells := 60, slots := 900, locals := 115 } s m ([.ref (ad 0), .ref a, .int x] : List Value).toArray below meth c H3 locs (0 + 26) (0 + 312) (MQ below (lqQ (fun v H1 => v = some (.int 1) ∧ LX D cA S0 ad a (B + 1) H1) (fun q => S0 ≤ q) H0) ([.ref (ad 0), .ref a, .int x] : List Value).toArray s 60 900 (fun q => S0 ≤ q)) (F0 m 148 ls []) := by
    refine lv_aload_n hx hb dL_act_148 rfl (lv_at hl 4 rfl) ?_
    refine fa_get (D := D) (ci := 4) (v := .ref lb1) (C := RX4) (T := TX4) (N := 7) hx hb hts hinX4 hown hK hO rfl 6 (by decide) (hts (.fieldLink RL 31 "CairnShellsLaw$Sim" "later" "[[Z") (by decide +kernel)) (fun _ h9 => h9) rfl dL_act_149 ?_
    refine lv_iload hx hb dL_act_152 (lv_at hl 1 rfl) ?_
    refine fa_aald 3 hx hb hK rfl rfl hGl.1 rfl (by omega) (by omega) dL_act_154 ?_
    refine lv_iload hx hb dL_act_155 (lv_at hl 0 rfl) ?_
    refine fa_zald (D := D) (j := kb32) hx hb hK (hGl.2 kb15 (by omega)) (by omega) (by omega) dL_act_157 ?_
    refine my_ifne_b (tgt := 184) hx hb dL_act_158 (by decide) (fun h9 => ?_) (fun h9 => ?_)
    · refine lv_iconst (v := 1) hx hb dL_act_184 (by decide) ?_
      exact LQ_zret hx hb hr hlk dL_act_185 (by omega) (by omega) ⟨rfl, N, hN0, LV.mk (hU.up (by omega)) hC hD hO hB hro⟩ hS (by decide)
    · refine lv_aload_n hx hb dL_act_161 rfl (lv_at hl 4 rfl) ?_
      refine fa_get (D := D) (ci := 4) (v := .ref lb1) (C := RX4) (T := TX4) (N := 7) hx hb hts hinX4 hown hK hO rfl 6 (by decide) (hts (.fieldLink RL 31 "CairnShellsLaw$Sim" "later" "[[Z") (by decide +kernel)) (fun _ h9 => h9) rfl dL_act_162 ?_
      refine lv_iload hx hb dL_act_165 (lv_at hl 0 rfl) ?_
      refine fa_aald 3 hx hb hK rfl rfl hGl.1 rfl (by omega) (by omega) dL_act_167 ?_
      refine lv_iload hx hb dL_act_168 (lv_at hl 1 rfl) ?_
      refine fa_zald (D := D) (j := kb15) hx hb hK (hGl.2 kb32 (by omega)) (by omega) (by omega) dL_act_170 ?_
      refine my_ifne_b (tgt := 184) hx hb dL_act_171 (by decide) (fun h10 => ?_) (fun h10 => ?_)
      · refine lv_iconst (v := 1) hx hb dL_act_184 (by decide) ?_
        exact LQ_zret hx hb hr hlk dL_act_185 (by omega) (by omega) ⟨rfl, N, hN0, LV.mk (hU.up (by omega)) hC hD hO hB hro⟩ hS (by decide)
      · refine lv_iload_n hx hb dL_act_174 rfl (lv_at hl 5 rfl) ?_
        refine lv_iconst (v := 5) hx hb dL_act_175 (by decide) ?_
        refine lv_ishr hx hb dL_act_176 ?_
        refine lv_iconst (v := 2) hx hb dL_act_177 (by decide) ?_
        refine RO_go (va_runS (As := [.int ((x : Int32) >>> (5 &&& 31)), .int 2]) (rest := []) ⟨hx, hb, hml, hown, hts⟩ (c_L_below l (D := D) (cA := cA) (H0 := H3) ((x : Int32) >>> (5 &&& 31)) 2 (by omega) (by omega)) (va_cwS 2 hts gL_act_L_below rfl rfl rfl (by decide +kernel) ⟨Nat.le_of_ble_eq_true rfl, Nat.le_of_ble_eq_true rfl⟩) (cP_S hK) rfl rfl hl.1 rfl (lv_room (Nat.le_of_ble_eq_true rfl)) dL_act_178 ⟨by show _ ≤ 60; omega, by show _ ≤ 900; omega⟩) ?_
        obtain ⟨kb178, hkb178, ekb178⟩ := bel_ex ((x : Int32) >>> (5 &&& 31)) (u := 2) (by omega) (by omega)
        rw [ekb178]
        refine lv_if_ne (tgt := 186) hx hb dL_act_181 (by decide) (fun h11 => ?_) (fun h11 => ?_)
        · have hrf : (bt (be kb15) kb32 || bt (be kb32) kb15) = false := by simp [h9, h10]
          have hU2 := hU.same hkb15 hkb32 hrf
          refine lv_aload_n hx hb dL_act_186 rfl (lv_at hl 4 rfl) ?_
          refine lv_aload_n hx hb dL_act_187 rfl (lv_at hl 4 rfl) ?_
          refine fa_get (D := D) (ci := 4) (v := .ref sm) (C := RX4) (T := TX4) (N := 7) hx hb hts hinX4 hown hK hO rfl 2 (by decide) (hts (.fieldLink RL 35 "CairnShellsLaw$Sim" "sames" "[[I") (by decide +kernel)) (fun _ h9 => h9) rfl dL_act_188 ?_
          refine lv_iconst (v := 2) hx hb dL_act_191 (by decide) ?_
          have hro7 := fun g9 => hro.new hC hO hB g9
          have haz9 := AT.lt hO
          have hgr7 := gr9_keep hgr hGs hGl
          refine fa_newI (D := D) (N' := 2) hx hb (hts (.arrayClass .int) (by decide +kernel)) hK hS (by omega) (by show _ ≤ 60; omega) (by show _ ≤ 900; omega) dL_act_192 (fun q1 H12 hq1 eq1 hE9 hS => ?_)
          have hzq1 : S0 ≤ q1 := by rw [eq1]; exact hz
          have hhz9 : ho < q1 := by rw [eq1]; exact AT.lt hB.2.2.2.1
          refine lv_dup hx hb dL_act_194 rfl ?_
          refine lv_iconst (v := 0) hx hb dL_act_195 (by decide) ?_
          refine lv_iload hx hb dL_act_196 (lv_at hl 1 rfl) ?_
          refine fa_iast (D := D) (j := 0) hx hb hK hq1 hS hzq1 (by omega) (by omega) dL_act_198 (fun H13 locs hq1 ho9 hS => ?_)
          have hE9 := ho9.ex hE9 (Nat.le_of_eq eq1.symm)
          refine lv_dup hx hb dL_act_199 rfl ?_
          refine lv_iconst (v := 1) hx hb dL_act_200 (by decide) ?_
          refine lv_iload hx hb dL_act_201 (lv_at hl 0 rfl) ?_
          refine fa_iast (D := D) (j := 1) hx hb hK hq1 hS hzq1 (by omega) (by omega) dL_act_203 (fun H14 locs hq1 ho9 hS => ?_)
          have hE9 := ho9.ex hE9 (Nat.le_of_eq eq1.symm)
          have hq1 : AT D q1 (.inl (cA, 2, .inl (r2M (nI kb15) (nI kb32)))) H14 := hq1
          have hC : va_P D vwCl (WX cA ad N al be to od ph mn bu fi la tb tf tl) H14 := EX.P hE9 hC
          have hO : SO D H14 a N ab sm fo ho (.ref sa1) (.ref lb1) := EX.at hE9 hO
          have hB : SB D cA H14 ab sm fo ho rfi rhe rab rsm mA ax ay mS sx sy mn fr tt := hB.ex hE9
          have hGs : GZ D H14 sa1 N rsa1 (fun i j => bt (al i) j) := hGs.ex hE9
          have hGl : GZ D H14 lb1 N rla1 (fun i j => bt (be i) j) := hGl.ex hE9
          have hz : S0 ≤ H14.size := Nat.le_trans hz hE9.1
          refine LQ_go (va_runS (As := [.ref sm, .ref q1]) (rest := [.ref a]) ⟨hx, hb, hml, hown, hts⟩ (c_X4_more l (D := D) (cA := cA) (H0 := H14) (u := mS) (r := rsm) hmS hB.2.1.1 (fun i hi => ⟨_, hB.2.1.2 i hi⟩) hq1) (va_cwS 2 hts gL_act_X4_more rfl rfl rfl (by decide +kernel) ⟨Nat.le_of_ble_eq_true rfl, Nat.le_of_ble_eq_true rfl⟩) (cP_S hK) rfl rfl hl.1 rfl (lv_room (Nat.le_of_ble_eq_true rfl)) dL_act_204 ⟨by show _ ≤ 60; omega, by show _ ≤ 900; omega⟩) hS (fun q h => Nat.le_trans hz h) (fun v9 H15 locs hp9 hk9 hS => ?_)
          obtain ⟨q2, rfl, hzq2, hq2⟩ := hp9
          have hE9 := hk9.ex (fun q h => h)
          have hq12 : q1 < q2 := Nat.lt_of_lt_of_le (AT.lt hq1) hzq2
          have hro9 := hro7 (fun q => if q = q2 then 3 else 7)
          have hC : va_P D vwCl (WX cA ad N al be to od ph mn bu fi la tb tf tl) H15 := EX.P hE9 hC
          have hO : SO D H15 a N ab sm fo ho (.ref sa1) (.ref lb1) := EX.at hE9 hO
          have hB : SB D cA H15 ab sm fo ho rfi rhe rab rsm mA ax ay mS sx sy mn fr tt := hB.ex hE9
          have hGs : GZ D H15 sa1 N rsa1 (fun i j => bt (al i) j) := hGs.ex hE9
          have hGl : GZ D H15 lb1 N rla1 (fun i j => bt (be i) j) := hGl.ex hE9
          have hq1 : AT D q1 (.inl (cA, 2, .inl (r2M (nI kb15) (nI kb32)))) H15 := EX.at hE9 hq1
          have hz : S0 ≤ H15.size := Nat.le_trans hz hE9.1
          have hnq1 : q1 ≠ a := fun e9 => by have h7 := haz9; omega
          have hnq2 : q2 ≠ a := Nat.ne_of_gt (show a < q2 by have h7 := haz9; omega)
          refine W.eq (g2 := F0 m 207 ls [.ref q2, .ref a]) rfl ?_
          refine fa_put (D := D) (ci := 4) (v := .ref q2) (ty := .array (.array .int)) (C := RX4) (T := TX4) (N := 7) hx hb hts hinX4 tyX4 tyX4_ok nmX4 hown hK hO hS (hro.S (by rw [hro.2.2.1]; decide)) rfl 2 (by decide) (hts (.fieldLink RL 35 "CairnShellsLaw$Sim" "sames" "[[I") (by decide +kernel)) (fun _ h9 => h9) rfl (by decide +kernel) rfl rfl (Nat.le_of_ble_eq_true rfl) dL_act_207 (fun H16 locs hO ho9 hS => ?_)
          have hk9 := RR.on hro.2.2.1 ho9
          have hC : va_P D vwCl (WX cA ad N al be to od ph mn bu fi la tb tf tl) H16 := cls_kp hro hk9 (by decide) hC
          have hB : SB D cA H16 ab sm fo ho rfi rhe rab rsm mA ax ay mS sx sy mn fr tt := SB.kp hro hk9 (by decide) hB
          have hGs : GZ D H16 sa1 N rsa1 (fun i j => bt (al i) j) := hGs.rr hk9 (by decide) hgr.1 hgr.2.2.1
          have hGl : GZ D H16 lb1 N rla1 (fun i j => bt (be i) j) := hGl.rr hk9 (by decide) hgr.2.1 hgr.2.2.2
          have hz : S0 ≤ H16.size := Nat.le_trans hz hk9.1
          have hq1 : AT D q1 (.inl (cA, 2, .inl (r2M (nI kb15) (nI kb32)))) H16 := ho9.at hq1 hnq1
          have hq2 : AT D q2 (.inl (D.1 11, mS + 1, .inr (.inr (.inr (.inr (fun i => some (ap1 rsm mS q1 i))))))) H16 := ho9.at hq2 hnq2
          have hO : SO D H16 a N ab q2 fo ho (.ref sa1) (.ref lb1) := hO
          have hB : SB D cA H16 ab q2 fo ho rfi rhe rab (ap1 rsm mS q1) mA ax ay (mS + 1) (ap1 sx mS kb15) (ap1 sy mS kb32) mn fr tt := ⟨hB.1, GI.add (o := 0) (fun i hi => hB.2.1.2 i hi) hq2 hq1, hB.2.2.1, hB.2.2.2⟩
          have hro := hro9.addS (q1 := q1) (q2 := q2) ((if_pos (Nat.le_of_eq eq1.symm)).trans (if_neg (Nat.ne_of_lt hq12))) ((if_pos (Nat.le_trans (Nat.le_of_eq eq1.symm) (Nat.le_of_lt hq12))).trans (if_pos rfl))
          clear hro9
          obtain ⟨ro, hro⟩ : ∃ ro : Nat → Nat, RR ro S0 ad a ab q2 fo ho rfi rhe rab (ap1 rsm mS q1) mA (mS + 1) := ⟨_, hro⟩
          have hmS : mS + 1 ≤ 200 := by omega
          refine lv_aload_n hx hb dL_act_210 rfl (lv_at hl 4 rfl) ?_
          refine LQ_go (va_runV (As := []) (rest := []) ⟨hx, hb, hml, hown, hts⟩ (c_X4_reckon l (D := D) (cA := cA) (H0 := H16) (a := a) hU2.2.1 hN0 hU2.1.R hU2.2.2.1 hU2.2.2.2.1 hmS hmA hO hB.1 hB.2.1 (rne hro hro.2.2.2.1 (by decide)) (rne hro hro.2.2.2.2.1 (by decide)) (fun i hi => rne hro (hro.2.2.2.2.2.2.2.2.2.1 i hi) (by decide)) (fun i hi => rne hro (hro.2.2.2.2.2.2.2.2.2.2.1 i hi) (by decide))) (cwV 0 hts gL_act_X4_reckon rfl rfl rfl (by decide +kernel) ⟨Nat.le_of_ble_eq_true rfl, Nat.le_of_ble_eq_true rfl⟩) (cP_V hK (va_recv hK.1 (AT.one hO) (ci := 4) (q0 := 0) rfl rfl)) rfl rfl hl.1 rfl (lv_room (Nat.le_of_ble_eq_true rfl)) dL_act_211 ⟨by show _ ≤ 60; omega, by show _ ≤ 900; omega⟩) hS (fun q h => Or.elim h (fun e9 => by rw [e9]; exact hro.S (by rw [hro.2.2.1]; decide)) (fun z => Nat.le_trans hz z)) (fun v9 H17 locs hp9 hk9 hS => ?_)
          obtain ⟨rfl, sa2, lb2, rsa2, rla2, hO9, hGs, hGl, hz1, hz2, hz3, hz4⟩ := hp9
          have hro9 := hro.new hC hO hB (fun _ => 9)
          have hk8 := hro.a1 (K := fun _ _ => True) hk9
          have hC : va_P D vwCl (WX cA ad N al be to od ph mn bu fi la tb tf tl) H17 := cls_kp hro hk8 (by decide) hC
          have hB : SB D cA H17 ab q2 fo ho rfi rhe rab (ap1 rsm mS q1) mA ax ay (mS + 1) (ap1 sx mS kb15) (ap1 sy mS kb32) mn fr tt := SB.kp hro hk8 (by decide) hB
          have hO : SO D H17 a N ab q2 fo ho (.ref sa2) (.ref lb2) := hO9
          have hGs : GZ D H17 sa2 N rsa2 (fun i j => bt ((stU al (al kb15 ||| al kb32) N) i) j) := hGs
          have hGl : GZ D H17 lb2 N rla2 (fun i j => bt ((lkU (lkU be ((al kb15 ||| al kb32) ||| (to kb15 ||| to kb32)) (be kb15 ||| be kb32) N) (to kb15 ||| to kb32) (al kb15 ||| al kb32) N) i) j) := hGl
          have hz := Nat.le_trans hz hk9.1
          clear hro
          obtain ⟨ro, hro, hgr⟩ : ∃ ro : Nat → Nat, RR ro S0 ad a ab q2 fo ho rfi rhe rab (ap1 rsm mS q1) mA (mS + 1) ∧ GR ro sa2 lb2 N rsa2 rla2 := ⟨_, hro9, gr9_new hz1 hz2 hz3 hz4⟩
          refine W.eq (g2 := F0 m 214 ls [.ref a]) rfl ?_
          refine lv_pop hx hb dL_act_214 rfl ?_
          refine lv_iconst (v := 0) hx hb dL_act_215 (by decide) ?_
          refine lv_istore (lv' := [(6, .int 0), (5, .int (nI kb32)), (4, .int (nI kb15)), (3, .int (nI N)), (0, .ref (ad 0)), (1, .ref a), (2, .int x)]) hx hb dL_act_216 hl (by decide) rfl (fun ls hl => ?_)
          refine lv_aload_n hx hb dL_act_218 rfl (lv_at hl 5 rfl) ?_
          refine fa_get (D := D) (ci := 4) (v := .ref sa2) (C := RX4) (T := TX4) (N := 7) hx hb hts hinX4 hown hK hO rfl 5 (by decide) (hts (.fieldLink RL 43 "CairnShellsLaw$Sim" "same" "[[Z") (by decide +kernel)) (fun _ h9 => h9) rfl dL_act_219 ?_
          refine lv_iload hx hb dL_act_222 (lv_at hl 2 rfl) ?_
          refine fa_aald 3 hx hb hK rfl rfl hGs.1 rfl (by omega) (by omega) dL_act_224 ?_
          refine lv_astore (lv' := [(7, .ref (rsa2 kb15)), (6, .int 0), (5, .int (nI kb32)), (4, .int (nI kb15)), (3, .int (nI N)), (0, .ref (ad 0)), (1, .ref a), (2, .int x)]) hx hb dL_act_225 hl (by decide) rfl (fun ls hl => ?_)
          refine lv_aload hx hb dL_act_227 (lv_at hl 0 rfl) ?_
          refine fa_alen 1 hx hb hK rfl (hGs.2 kb15 (by omega)) dL_act_229 ?_
          refine W.eq (g2 := F0 m 230 ls [.int (nI N)]) rfl ?_
          refine lv_istore (lv' := [(8, .int (nI N)), (7, .ref (rsa2 kb15)), (6, .int 0), (5, .int (nI kb32)), (4, .int (nI kb15)), (3, .int (nI N)), (0, .ref (ad 0)), (1, .ref a), (2, .int x)]) hx hb dL_act_230 hl (by decide) rfl (fun ls hl => ?_)
          refine lv_iconst (v := 0) hx hb dL_act_232 (by decide) ?_
          refine lv_istore (lv' := [(9, .int 0), (8, .int (nI N)), (7, .ref (rsa2 kb15)), (6, .int 0), (5, .int (nI kb32)), (4, .int (nI kb15)), (3, .int (nI N)), (0, .ref (ad 0)), (1, .ref a), (2, .int x)]) hx hb dL_act_233 hl (by decide) rfl (fun ls hl => ?_)
          suffices lp235 : ∀ (n q : Nat) (y : Int32), q ≤ N → N < q + n → y = nI (ct (bt ((stU al (al kb15 ||| al kb32) N) kb15)) q) → ∀ ls, lv_has ls 13 [(9, .int (nI q)), (8, .int (nI N)), (7, .ref (rsa2 kb15)), (6, .int y), (5, .int (nI kb32)), (4, .int (nI kb15)), (3, .int (nI N)), (0, .ref (ad 0)), (1, .ref a), (2, .int x)] → W p l e { frames := 5, cells := 60, slots := 900, locals := 115 } s m ([.ref (ad 0), .ref a, .int x] : List Value).toArray below meth c H17 locs (0 + 26 + 1 + 1 + 26) (0 + 312 + 2 + 201 + 312) (MQ below (lqQ (fun v H1 => v = some (.int 1) ∧ LX D cA S0 ad a (B + 1) H1) (fun q => S0 ≤ q) H0) ([.ref (ad 0), .ref a, .int x] : List Value).toArray s 60 900 (fun q => S0 ≤ q)) (F0 m 235 ls []) from lp235 (N + 1) 0 0 (by omega) (by omega) (by first | rfl | (simp []; done) | decide)  _ (lv_sub hl [0, 1, 2, 3, 4, 5, 6, 7, 8, 9] rfl)
          intro n
          induction n with
          | zero => intro q y hk1 hk2; exact absurd hk2 (by omega)
          | succ n ih235 =>
            intro q y hk235 hn235 ey  ls hl
            subst ey
            refine lv_iload hx hb dL_act_235 (lv_at hl 0 rfl) ?_
            refine lv_iload hx hb dL_act_237 (lv_at hl 1 rfl) ?_
            refine my_geN (x := q) (y := N) (tgt := 270) hx hb dL_act_239 (by decide) (by omega) (by omega) (fun h19 => ?_) (fun h19 => ?_)
            · obtain rfl : N = q := by omega
              refine lv_aload_n hx hb dL_act_270 rfl (lv_at hl 7 rfl) ?_
              refine lv_iload hx hb dL_act_271 (lv_at hl 5 rfl) ?_
              refine lv_iload hx hb dL_act_273 (lv_at hl 4 rfl) ?_
              refine WRL_go (va_runV (As := [.int (nI kb15), .int (nI kb32)]) (rest := []) ⟨hx, hb, hml, hown, hts⟩ (k_same l kb15 kb32 hU.1 hC hD hkb15 hkb32 hrf) (cwV 2 hts gL_act_X3_same rfl rfl rfl (by decide +kernel) ⟨Nat.le_of_ble_eq_true rfl, Nat.le_of_ble_eq_true rfl⟩) (cP_V hK (va_recv hK.1 (AT.one (hC 0 _ rfl)) (ci := 3) (q0 := 0) rfl rfl)) rfl rfl hl.1 rfl (lv_room (Nat.le_of_ble_eq_true rfl)) dL_act_275 ⟨by show _ ≤ 60; omega, by show _ ≤ 900; omega⟩) hS (hro.clsA hz) (fun H20 locs hC9 hk9 hS => ?_)
              have hk9 := hro.cls hk9
              have hO : SO D H20 a N ab q2 fo ho (.ref sa2) (.ref lb2) := KP.at hk9 hO (fun z => absurd (hro.2.2.1.symm.trans z) (by decide))
              have hB : SB D cA H20 ab q2 fo ho rfi rhe rab (ap1 rsm mS q1) mA ax ay (mS + 1) (ap1 sx mS kb15) (ap1 sy mS kb32) mn fr tt := SB.kp hro hk9 (by decide) hB
              have hGs : GZ D H20 sa2 N rsa2 (fun i j => bt ((stU al (al kb15 ||| al kb32) N) i) j) := hGs.rr hk9 (by decide) hgr.1 hgr.2.2.1
              have hGl : GZ D H20 lb2 N rla2 (fun i j => bt ((lkU (lkU be ((al kb15 ||| al kb32) ||| (to kb15 ||| to kb32)) (be kb15 ||| be kb32) N) (to kb15 ||| to kb32) (al kb15 ||| al kb32) N) i) j) := hGl.rr hk9 (by decide) hgr.2.1 hgr.2.2.2
              have hz : S0 ≤ H20.size := Nat.le_trans hz hk9.1
              have hC : va_P D vwCl (WX cA ad N (stU al (al kb15 ||| al kb32) N) (lkU (lkU be ((al kb15 ||| al kb32) ||| (to kb15 ||| to kb32)) (be kb15 ||| be kb32) N) (to kb15 ||| to kb32) (al kb15 ||| al kb32) N) (lkU (lkU to (be kb15 ||| be kb32) ((al kb15 ||| al kb32) ||| (to kb15 ||| to kb32)) N) (al kb15 ||| al kb32) (to kb15 ||| to kb32) N) (arO N (lkU (lkU be ((al kb15 ||| al kb32) ||| (to kb15 ||| to kb32)) (be kb15 ||| be kb32) N) (to kb15 ||| to kb32) (al kb15 ||| al kb32) N) od N) (arP N (lkU (lkU be ((al kb15 ||| al kb32) ||| (to kb15 ||| to kb32)) (be kb15 ||| be kb32) N) (to kb15 ||| to kb32) (al kb15 ||| al kb32) N) ph N) mn bu fi la tb tf tl) H20 := hC9
              have hD : va_D (fun _ => True) (WX cA ad N (stU al (al kb15 ||| al kb32) N) (lkU (lkU be ((al kb15 ||| al kb32) ||| (to kb15 ||| to kb32)) (be kb15 ||| be kb32) N) (to kb15 ||| to kb32) (al kb15 ||| al kb32) N) (lkU (lkU to (be kb15 ||| be kb32) ((al kb15 ||| al kb32) ||| (to kb15 ||| to kb32)) N) (al kb15 ||| al kb32) (to kb15 ||| to kb32) N) (arO N (lkU (lkU be ((al kb15 ||| al kb32) ||| (to kb15 ||| to kb32)) (be kb15 ||| be kb32) N) (to kb15 ||| to kb32) (al kb15 ||| al kb32) N) od N) (arP N (lkU (lkU be ((al kb15 ||| al kb32) ||| (to kb15 ||| to kb32)) (be kb15 ||| be kb32) N) (to kb15 ||| to kb32) (al kb15 ||| al kb32) N) ph N) mn bu fi la tb tf tl) := hD.adr rfl
              refine W.eq (g2 := F0 m 278 ls [.int (nI (ct (bt ((stU al (al kb15 ||| al kb32) N) kb15)) 14))]) rfl ?_
              refine lv_iload hx hb dL_act_278 (lv_at hl 3 rfl) ?_
              have hct21 := ct_le ((bt ((stU al (al kb15 ||| al kb32) N) kb15))) N
              have hct22 := ct_le ((bt ((stU al (al kb15 ||| al kb32) N) kb15))) 14
              refine my_neN (x := ct (bt ((stU al (al kb15 ||| al kb32) N) kb15)) 14) (y := ct (bt ((stU al (al kb15 ||| al kb32) N) kb15)) N) (tgt := 287) hx hb dL_act_280 (by decide) (by omega) (by omega) (fun h9 => absurd (ct14a hU2.1.R hkb15) h9) (fun _ => ?_)
              refine lv_iconst (v := 1) hx hb dL_act_283 (by decide) ?_
              refine lv_goto (tgt := 288) hx hb dL_act_284 (by decide) ?_
              exact LQ_zret hx hb hr hlk dL_act_288 (by omega) (by omega) ⟨rfl, N, hN0, LV.mk (hU2.up (by omega)) hC hD hO hB hro⟩ hS (by decide)
            · refine lv_aload hx hb dL_act_242 (lv_at hl 2 rfl) ?_
              refine lv_iload hx hb dL_act_244 (lv_at hl 0 rfl) ?_
              refine fa_zald (D := D) (j := q) hx hb hK (hGs.2 kb15 (by omega)) (by omega) (by omega) dL_act_246 ?_
              refine lv_istore (lv' := [(10, .int (bI (bt ((stU al (al kb15 ||| al kb32) N) kb15) q))), (9, .int (nI q)), (8, .int (nI N)), (7, .ref (rsa2 kb15)), (6, .int (nI (ct (bt ((stU al (al kb15 ||| al kb32) N) kb15)) q))), (5, .int (nI kb32)), (4, .int (nI kb15)), (3, .int (nI N)), (0, .ref (ad 0)), (1, .ref a), (2, .int x)]) hx hb dL_act_247 hl (by decide) rfl (fun ls hl => ?_)
              refine lv_iload hx hb dL_act_249 (lv_at hl 4 rfl) ?_
              suffices jn24 : ∀ ls, lv_has ls 13 [(10, .int (bI (bt ((stU al (al kb15 ||| al kb32) N) kb15) q))), (9, .int (nI q)), (8, .int (nI N)), (7, .ref (rsa2 kb15)), (6, .int (nI (ct (bt ((stU al (al kb15 ||| al kb32) N) kb15)) q))), (5, .int (nI kb32)), (4, .int (nI kb15)), (3, .int (nI N)), (0, .ref (ad 0)), (1, .ref a), (2, .int x)] → W p l e { frames := 5, cells := 60, slots := 900, locals := 115 } s m ([.ref (ad 0), .ref a, .int x] : List Value).toArray below meth c H17 locs (0 + 26 + 1 + 1 + 26) (0 + 312 + 2 + 201 + 312) (MQ below (lqQ (fun v H1 => v = some (.int 1) ∧ LX D cA S0 ad a (B + 1) H1) (fun q => S0 ≤ q) H0) ([.ref (ad 0), .ref a, .int x] : List Value).toArray s 60 900 (fun q => S0 ≤ q)) (F0 m 261 ls [.int (nI (if bt ((stU al (al kb15 ||| al kb32) N) kb15) q then 1 else 0)), .int (nI (ct (bt ((stU al (al kb15 ||| al kb32) N) kb15)) q))]) by
                refine lv_iload hx hb dL_act_251 (lv_at hl 0 rfl) ?_
                refine my_ifeq_b (tgt := 260) hx hb dL_act_253 (by decide) (fun h25 => ?_) (fun h25 => ?_)
                · refine lv_iconst (v := 0) hx hb dL_act_260 (by decide) ?_
                  have e9 : (0 : Int32) = nI (if bt ((stU al (al kb15 ||| al kb32) N) kb15) q then 1 else 0) := (by first | exact bN_f h25 | exact bN_f (by simp [h9, h10, h11, h19, h25]))
                  exact W.eq (congrArg (fun v9 => F0 m 261 ls [.int v9, .int (nI (ct (bt ((stU al (al kb15 ||| al kb32) N) kb15)) q))]) e9) (jn24 _ hl)
                · refine lv_iconst (v := 1) hx hb dL_act_256 (by decide) ?_
                  refine lv_goto (tgt := 261) hx hb dL_act_257 (by decide) ?_
                  have e9 : (1 : Int32) = nI (if bt ((stU al (al kb15 ||| al kb32) N) kb15) q then 1 else 0) := (by first | exact bN_t h25 | exact bN_t (by simp [h9, h10, h11, h19, h25]))
                  exact W.eq (congrArg (fun v9 => F0 m 261 ls [.int v9, .int (nI (ct (bt ((stU al (al kb15 ||| al kb32) N) kb15)) q))]) e9) (jn24 _ hl)
              intro ls hl
              refine my_iaddN (x := ct (bt ((stU al (al kb15 ||| al kb32) N) kb15)) q) (y := (if bt ((stU al (al kb15 ||| al kb32) N) kb15) q then 1 else 0)) hx hb dL_act_261 ?_
              refine lv_istore (lv' := [(6, .int (nI ((ct (bt ((stU al (al kb15 ||| al kb32) N) kb15)) q) + (if bt ((stU al (al kb15 ||| al kb32) N) kb15) q then 1 else 0)))), (10, .int (bI (bt ((stU al (al kb15 ||| al kb32) N) kb15) q))), (9, .int (nI q)), (8, .int (nI N)), (7, .ref (rsa2 kb15)), (5, .int (nI kb32)), (4, .int (nI kb15)), (3, .int (nI N)), (0, .ref (ad 0)), (1, .ref a), (2, .int x)]) hx hb dL_act_262 hl (by decide) rfl (fun ls hl => ?_)
              refine lv_iinc (v := nI (q + 1)) (x := nI q) (lv' := [(9, .int (nI (q + 1))), (6, .int (nI ((ct (bt ((stU al (al kb15 ||| al kb32) N) kb15)) q) + (if bt ((stU al (al kb15 ||| al kb32) N) kb15) q then 1 else 0)))), (10, .int (bI (bt ((stU al (al kb15 ||| al kb32) N) kb15) q))), (8, .int (nI N)), (7, .ref (rsa2 kb15)), (5, .int (nI kb32)), (4, .int (nI kb15)), (3, .int (nI N)), (0, .ref (ad 0)), (1, .ref a), (2, .int x)]) hx hb dL_act_264 hl (k := 2) rfl (nI_1 q) (by decide) rfl (fun ls hl => ?_)
              refine lv_goto (tgt := 235) hx hb dL_act_267 (by decide) ?_
              exact ih235 (q + 1) (nI ((ct (bt ((stU al (al kb15 ||| al kb32) N) kb15)) q) + (if bt ((stU al (al kb15 ||| al kb32) N) kb15) q then 1 else 0))) (by omega) (by omega) (by first | rfl | simp [h9, h10, h11, h19])  _ (lv_sub hl [0, 3, 4, 1, 5, 6, 7, 8, 9, 10] rfl)
        · refine lv_iconst (v := 1) hx hb dL_act_184 (by decide) ?_
          exact LQ_zret hx hb hr hlk dL_act_185 (by omega) (by omega) ⟨rfl, N, hN0, LV.mk (hU.up (by omega)) hC hD hO hB hro⟩ hS (by decide)
  have t289 : W p l e { frames := 5, cells := 60, slots := 900, locals := 115 } s m ([.ref (ad 0), .ref a, .int x] : List Value).toArray below meth c H3 locs (0 + 26) (0 + 312) (MQ below (lqQ (fun v H1 => v = some (.int 1) ∧ LX D cA S0 ad a (B + 1) H1) (fun q => S0 ≤ q) H0) ([.ref (ad 0), .ref a, .int x] : List Value).toArray s 60 900 (fun q => S0 ≤ q)) (F0 m 289 ls []) := by
    refine lv_aload_n hx hb dL_act_289 rfl (lv_at hl 4 rfl) ?_
    refine fa_get (D := D) (ci := 4) (v := .ref sa1) (C := RX4) (T := TX4) (N := 7) hx hb hts hinX4 hown hK hO rfl 5 (by decide) (hts (.fieldLink RL 43 "CairnShellsLaw$Sim" "same" "[[Z") (by decide +kernel)) (fun _ h9 => h9) rfl dL_act_290 ?_
    refine lv_iload hx hb dL_act_293 (lv_at hl 1 rfl) ?_
    refine fa_aald 3 hx hb hK rfl rfl hGs.1 rfl (by omega) (by omega) dL_act_295 ?_
    refine lv_iload hx hb dL_act_296 (lv_at hl 0 rfl) ?_
    refine fa_zald (D := D) (j := kb32) hx hb hK (hGs.2 kb15 (by omega)) (by omega) (by omega) dL_act_298 ?_
    refine my_ifne_b (tgt := 315) hx hb dL_act_299 (by decide) (fun h26 => ?_) (fun h26 => ?_)
    · refine lv_iconst (v := 1) hx hb dL_act_315 (by decide) ?_
      exact LQ_zret hx hb hr hlk dL_act_316 (by omega) (by omega) ⟨rfl, N, hN0, LV.mk (hU.up (by omega)) hC hD hO hB hro⟩ hS (by decide)
    · refine lv_aload_n hx hb dL_act_302 rfl (lv_at hl 4 rfl) ?_
      refine fa_get (D := D) (ci := 4) (v := .ref lb1) (C := RX4) (T := TX4) (N := 7) hx hb hts hinX4 hown hK hO rfl 6 (by decide) (hts (.fieldLink RL 31 "CairnShellsLaw$Sim" "later" "[[Z") (by decide +kernel)) (fun _ h9 => h9) rfl dL_act_303 ?_
      refine lv_iload hx hb dL_act_306 (lv_at hl 0 rfl) ?_
      refine fa_aald 3 hx hb hK rfl rfl hGl.1 rfl (by omega) (by omega) dL_act_308 ?_
      refine lv_iload hx hb dL_act_309 (lv_at hl 1 rfl) ?_
      refine fa_zald (D := D) (j := kb15) hx hb hK (hGl.2 kb32 (by omega)) (by omega) (by omega) dL_act_311 ?_
      refine my_ifeq_b (tgt := 317) hx hb dL_act_312 (by decide) (fun h27 => ?_) (fun h27 => ?_)
      · have hrf : (bt (al kb15) kb32 || bt (be kb32) kb15) = false := by simp [h26, h27]
        have hU2 := hU.above hkb15 hkb32 hrf
        refine lv_aload_n hx hb dL_act_317 rfl (lv_at hl 4 rfl) ?_
        refine lv_aload_n hx hb dL_act_318 rfl (lv_at hl 4 rfl) ?_
        refine fa_get (D := D) (ci := 4) (v := .ref ab) (C := RX4) (T := TX4) (N := 7) hx hb hts hinX4 hown hK hO rfl 1 (by decide) (hts (.fieldLink RL 48 "CairnShellsLaw$Sim" "aboves" "[[I") (by decide +kernel)) (fun _ h9 => h9) rfl dL_act_319 ?_
        refine lv_iconst (v := 2) hx hb dL_act_322 (by decide) ?_
        have hro7 := fun g9 => hro.new hC hO hB g9
        have haz9 := AT.lt hO
        have hgr7 := gr9_keep hgr hGs hGl
        refine fa_newI (D := D) (N' := 2) hx hb (hts (.arrayClass .int) (by decide +kernel)) hK hS (by omega) (by show _ ≤ 60; omega) (by show _ ≤ 900; omega) dL_act_323 (fun q1 H28 hq1 eq1 hE9 hS => ?_)
        have hzq1 : S0 ≤ q1 := by rw [eq1]; exact hz
        have hhz9 : ho < q1 := by rw [eq1]; exact AT.lt hB.2.2.2.1
        refine lv_dup hx hb dL_act_325 rfl ?_
        refine lv_iconst (v := 0) hx hb dL_act_326 (by decide) ?_
        refine lv_iload hx hb dL_act_327 (lv_at hl 1 rfl) ?_
        refine fa_iast (D := D) (j := 0) hx hb hK hq1 hS hzq1 (by omega) (by omega) dL_act_329 (fun H29 locs hq1 ho9 hS => ?_)
        have hE9 := ho9.ex hE9 (Nat.le_of_eq eq1.symm)
        refine lv_dup hx hb dL_act_330 rfl ?_
        refine lv_iconst (v := 1) hx hb dL_act_331 (by decide) ?_
        refine lv_iload hx hb dL_act_332 (lv_at hl 0 rfl) ?_
        refine fa_iast (D := D) (j := 1) hx hb hK hq1 hS hzq1 (by omega) (by omega) dL_act_334 (fun H30 locs hq1 ho9 hS => ?_)
        have hE9 := ho9.ex hE9 (Nat.le_of_eq eq1.symm)
        have hq1 : AT D q1 (.inl (cA, 2, .inl (r2M (nI kb15) (nI kb32)))) H30 := hq1
        have hC : va_P D vwCl (WX cA ad N al be to od ph mn bu fi la tb tf tl) H30 := EX.P hE9 hC
        have hO : SO D H30 a N ab sm fo ho (.ref sa1) (.ref lb1) := EX.at hE9 hO
        have hB : SB D cA H30 ab sm fo ho rfi rhe rab rsm mA ax ay mS sx sy mn fr tt := hB.ex hE9
        have hGs : GZ D H30 sa1 N rsa1 (fun i j => bt (al i) j) := hGs.ex hE9
        have hGl : GZ D H30 lb1 N rla1 (fun i j => bt (be i) j) := hGl.ex hE9
        have hz : S0 ≤ H30.size := Nat.le_trans hz hE9.1
        refine LQ_go (va_runS (As := [.ref ab, .ref q1]) (rest := [.ref a]) ⟨hx, hb, hml, hown, hts⟩ (c_X4_more l (D := D) (cA := cA) (H0 := H30) (u := mA) (r := rab) hmA hB.1.1 (fun i hi => ⟨_, hB.1.2 i hi⟩) hq1) (va_cwS 2 hts gL_act_X4_more rfl rfl rfl (by decide +kernel) ⟨Nat.le_of_ble_eq_true rfl, Nat.le_of_ble_eq_true rfl⟩) (cP_S hK) rfl rfl hl.1 rfl (lv_room (Nat.le_of_ble_eq_true rfl)) dL_act_335 ⟨by show _ ≤ 60; omega, by show _ ≤ 900; omega⟩) hS (fun q h => Nat.le_trans hz h) (fun v9 H31 locs hp9 hk9 hS => ?_)
        obtain ⟨q2, rfl, hzq2, hq2⟩ := hp9
        have hE9 := hk9.ex (fun q h => h)
        have hq12 : q1 < q2 := Nat.lt_of_lt_of_le (AT.lt hq1) hzq2
        have hro9 := hro7 (fun q => if q = q2 then 3 else 7)
        have hC : va_P D vwCl (WX cA ad N al be to od ph mn bu fi la tb tf tl) H31 := EX.P hE9 hC
        have hO : SO D H31 a N ab sm fo ho (.ref sa1) (.ref lb1) := EX.at hE9 hO
        have hB : SB D cA H31 ab sm fo ho rfi rhe rab rsm mA ax ay mS sx sy mn fr tt := hB.ex hE9
        have hGs : GZ D H31 sa1 N rsa1 (fun i j => bt (al i) j) := hGs.ex hE9
        have hGl : GZ D H31 lb1 N rla1 (fun i j => bt (be i) j) := hGl.ex hE9
        have hq1 : AT D q1 (.inl (cA, 2, .inl (r2M (nI kb15) (nI kb32)))) H31 := EX.at hE9 hq1
        have hz : S0 ≤ H31.size := Nat.le_trans hz hE9.1
        have hnq1 : q1 ≠ a := fun e9 => by have h7 := haz9; omega
        have hnq2 : q2 ≠ a := Nat.ne_of_gt (show a < q2 by have h7 := haz9; omega)
        refine W.eq (g2 := F0 m 338 ls [.ref q2, .ref a]) rfl ?_
        refine fa_put (D := D) (ci := 4) (v := .ref q2) (ty := .array (.array .int)) (C := RX4) (T := TX4) (N := 7) hx hb hts hinX4 tyX4 tyX4_ok nmX4 hown hK hO hS (hro.S (by rw [hro.2.2.1]; decide)) rfl 1 (by decide) (hts (.fieldLink RL 48 "CairnShellsLaw$Sim" "aboves" "[[I") (by decide +kernel)) (fun _ h9 => h9) rfl (by decide +kernel) rfl rfl (Nat.le_of_ble_eq_true rfl) dL_act_338 (fun H32 locs hO ho9 hS => ?_)
        have hk9 := RR.on hro.2.2.1 ho9
        have hC : va_P D vwCl (WX cA ad N al be to od ph mn bu fi la tb tf tl) H32 := cls_kp hro hk9 (by decide) hC
        have hB : SB D cA H32 ab sm fo ho rfi rhe rab rsm mA ax ay mS sx sy mn fr tt := SB.kp hro hk9 (by decide) hB
        have hGs : GZ D H32 sa1 N rsa1 (fun i j => bt (al i) j) := hGs.rr hk9 (by decide) hgr.1 hgr.2.2.1
        have hGl : GZ D H32 lb1 N rla1 (fun i j => bt (be i) j) := hGl.rr hk9 (by decide) hgr.2.1 hgr.2.2.2
        have hz : S0 ≤ H32.size := Nat.le_trans hz hk9.1
        have hq1 : AT D q1 (.inl (cA, 2, .inl (r2M (nI kb15) (nI kb32)))) H32 := ho9.at hq1 hnq1
        have hq2 : AT D q2 (.inl (D.1 11, mA + 1, .inr (.inr (.inr (.inr (fun i => some (ap1 rab mA q1 i))))))) H32 := ho9.at hq2 hnq2
        have hO : SO D H32 a N q2 sm fo ho (.ref sa1) (.ref lb1) := hO
        have hB : SB D cA H32 q2 sm fo ho rfi rhe (ap1 rab mA q1) rsm (mA + 1) (ap1 ax mA kb15) (ap1 ay mA kb32) mS sx sy mn fr tt := ⟨GI.add (o := 0) (fun i hi => hB.1.2 i hi) hq2 hq1, hB.2.1, hB.2.2.1, hB.2.2.2⟩
        have hro := hro9.addA (q1 := q1) (q2 := q2) ((if_pos (Nat.le_of_eq eq1.symm)).trans (if_neg (Nat.ne_of_lt hq12))) ((if_pos (Nat.le_trans (Nat.le_of_eq eq1.symm) (Nat.le_of_lt hq12))).trans (if_pos rfl))
        clear hro9
        obtain ⟨ro, hro⟩ : ∃ ro : Nat → Nat, RR ro S0 ad a q2 sm fo ho rfi rhe (ap1 rab mA q1) rsm (mA + 1) mS := ⟨_, hro⟩
        have hmA : mA + 1 ≤ 200 := by omega
        refine lv_aload_n hx hb dL_act_341 rfl (lv_at hl 4 rfl) ?_
        refine LQ_go (va_runV (As := []) (rest := []) ⟨hx, hb, hml, hown, hts⟩ (c_X4_reckon l (D := D) (cA := cA) (H0 := H32) (a := a) hU2.2.1 hN0 hU2.1.R hU2.2.2.1 hU2.2.2.2.1 hmS hmA hO hB.1 hB.2.1 (rne hro hro.2.2.2.1 (by decide)) (rne hro hro.2.2.2.2.1 (by decide)) (fun i hi => rne hro (hro.2.2.2.2.2.2.2.2.2.1 i hi) (by decide)) (fun i hi => rne hro (hro.2.2.2.2.2.2.2.2.2.2.1 i hi) (by decide))) (cwV 0 hts gL_act_X4_reckon rfl rfl rfl (by decide +kernel) ⟨Nat.le_of_ble_eq_true rfl, Nat.le_of_ble_eq_true rfl⟩) (cP_V hK (va_recv hK.1 (AT.one hO) (ci := 4) (q0 := 0) rfl rfl)) rfl rfl hl.1 rfl (lv_room (Nat.le_of_ble_eq_true rfl)) dL_act_342 ⟨by show _ ≤ 60; omega, by show _ ≤ 900; omega⟩) hS (fun q h => Or.elim h (fun e9 => by rw [e9]; exact hro.S (by rw [hro.2.2.1]; decide)) (fun z => Nat.le_trans hz z)) (fun v9 H33 locs hp9 hk9 hS => ?_)
        obtain ⟨rfl, sa2, lb2, rsa2, rla2, hO9, hGs, hGl, hz1, hz2, hz3, hz4⟩ := hp9
        have hro9 := hro.new hC hO hB (fun _ => 9)
        have hk8 := hro.a1 (K := fun _ _ => True) hk9
        have hC : va_P D vwCl (WX cA ad N al be to od ph mn bu fi la tb tf tl) H33 := cls_kp hro hk8 (by decide) hC
        have hB : SB D cA H33 q2 sm fo ho rfi rhe (ap1 rab mA q1) rsm (mA + 1) (ap1 ax mA kb15) (ap1 ay mA kb32) mS sx sy mn fr tt := SB.kp hro hk8 (by decide) hB
        have hO : SO D H33 a N q2 sm fo ho (.ref sa2) (.ref lb2) := hO9
        have hGs : GZ D H33 sa2 N rsa2 (fun i j => bt (al i) j) := hGs
        have hGl : GZ D H33 lb2 N rla2 (fun i j => bt ((lkU be (al kb15 ||| to kb15) (al kb32 ||| be kb32) N) i) j) := hGl
        have hz := Nat.le_trans hz hk9.1
        clear hro
        obtain ⟨ro, hro, hgr⟩ : ∃ ro : Nat → Nat, RR ro S0 ad a q2 sm fo ho rfi rhe (ap1 rab mA q1) rsm (mA + 1) mS ∧ GR ro sa2 lb2 N rsa2 rla2 := ⟨_, hro9, gr9_new hz1 hz2 hz3 hz4⟩
        refine W.eq (g2 := F0 m 345 ls [.ref a]) rfl ?_
        refine lv_pop hx hb dL_act_345 rfl ?_
        refine lv_iconst (v := 0) hx hb dL_act_346 (by decide) ?_
        refine lv_istore (lv' := [(7, .int 0), (5, .int (nI kb32)), (4, .int (nI kb15)), (3, .int (nI N)), (0, .ref (ad 0)), (1, .ref a), (2, .int x)]) hx hb dL_act_347 hl (by decide) rfl (fun ls hl => ?_)
        refine lv_aload_n hx hb dL_act_349 rfl (lv_at hl 5 rfl) ?_
        refine fa_get (D := D) (ci := 4) (v := .ref lb2) (C := RX4) (T := TX4) (N := 7) hx hb hts hinX4 hown hK hO rfl 6 (by decide) (hts (.fieldLink RL 31 "CairnShellsLaw$Sim" "later" "[[Z") (by decide +kernel)) (fun _ h9 => h9) rfl dL_act_350 ?_
        refine lv_iload hx hb dL_act_353 (lv_at hl 2 rfl) ?_
        refine fa_aald 3 hx hb hK rfl rfl hGl.1 rfl (by omega) (by omega) dL_act_355 ?_
        refine lv_astore (lv' := [(8, .ref (rla2 kb15)), (7, .int 0), (5, .int (nI kb32)), (4, .int (nI kb15)), (3, .int (nI N)), (0, .ref (ad 0)), (1, .ref a), (2, .int x)]) hx hb dL_act_356 hl (by decide) rfl (fun ls hl => ?_)
        refine lv_aload hx hb dL_act_358 (lv_at hl 0 rfl) ?_
        refine fa_alen 1 hx hb hK rfl (hGl.2 kb15 (by omega)) dL_act_360 ?_
        refine W.eq (g2 := F0 m 361 ls [.int (nI N)]) rfl ?_
        refine lv_istore (lv' := [(9, .int (nI N)), (8, .ref (rla2 kb15)), (7, .int 0), (5, .int (nI kb32)), (4, .int (nI kb15)), (3, .int (nI N)), (0, .ref (ad 0)), (1, .ref a), (2, .int x)]) hx hb dL_act_361 hl (by decide) rfl (fun ls hl => ?_)
        refine lv_iconst (v := 0) hx hb dL_act_363 (by decide) ?_
        refine lv_istore (lv' := [(10, .int 0), (9, .int (nI N)), (8, .ref (rla2 kb15)), (7, .int 0), (5, .int (nI kb32)), (4, .int (nI kb15)), (3, .int (nI N)), (0, .ref (ad 0)), (1, .ref a), (2, .int x)]) hx hb dL_act_364 hl (by decide) rfl (fun ls hl => ?_)
        suffices lp366 : ∀ (n q : Nat) (y : Int32), q ≤ N → N < q + n → y = nI (ct (bt ((lkU be (al kb15 ||| to kb15) (al kb32 ||| be kb32) N) kb15)) q) → ∀ ls, lv_has ls 13 [(10, .int (nI q)), (9, .int (nI N)), (8, .ref (rla2 kb15)), (7, .int y), (5, .int (nI kb32)), (4, .int (nI kb15)), (3, .int (nI N)), (0, .ref (ad 0)), (1, .ref a), (2, .int x)] → W p l e { frames := 5, cells := 60, slots := 900, locals := 115 } s m ([.ref (ad 0), .ref a, .int x] : List Value).toArray below meth c H33 locs (0 + 26 + 1 + 1 + 26) (0 + 312 + 2 + 201 + 312) (MQ below (lqQ (fun v H1 => v = some (.int 1) ∧ LX D cA S0 ad a (B + 1) H1) (fun q => S0 ≤ q) H0) ([.ref (ad 0), .ref a, .int x] : List Value).toArray s 60 900 (fun q => S0 ≤ q)) (F0 m 366 ls []) from lp366 (N + 1) 0 0 (by omega) (by omega) (by first | rfl | (simp []; done) | decide)  _ (lv_sub hl [0, 1, 2, 3, 4, 5, 6, 7, 8, 9] rfl)
        intro n
        induction n with
        | zero => intro q y hk1 hk2; exact absurd hk2 (by omega)
        | succ n ih366 =>
          intro q y hk366 hn366 ey  ls hl
          subst ey
          refine lv_iload hx hb dL_act_366 (lv_at hl 0 rfl) ?_
          refine lv_iload hx hb dL_act_368 (lv_at hl 1 rfl) ?_
          refine my_geN (x := q) (y := N) (tgt := 401) hx hb dL_act_370 (by decide) (by omega) (by omega) (fun h35 => ?_) (fun h35 => ?_)
          · obtain rfl : N = q := by omega
            refine lv_aload_n hx hb dL_act_401 rfl (lv_at hl 7 rfl) ?_
            refine lv_iload hx hb dL_act_402 (lv_at hl 5 rfl) ?_
            refine lv_iload hx hb dL_act_404 (lv_at hl 4 rfl) ?_
            refine WRL_go (va_runV (As := [.int (nI kb15), .int (nI kb32)]) (rest := []) ⟨hx, hb, hml, hown, hts⟩ (k_above l kb15 kb32 hU.1 hC hD hkb15 hkb32 hrf) (cwV 2 hts gL_act_X3_above rfl rfl rfl (by decide +kernel) ⟨Nat.le_of_ble_eq_true rfl, Nat.le_of_ble_eq_true rfl⟩) (cP_V hK (va_recv hK.1 (AT.one (hC 0 _ rfl)) (ci := 3) (q0 := 0) rfl rfl)) rfl rfl hl.1 rfl (lv_room (Nat.le_of_ble_eq_true rfl)) dL_act_406 ⟨by show _ ≤ 60; omega, by show _ ≤ 900; omega⟩) hS (hro.clsA hz) (fun H36 locs hC9 hk9 hS => ?_)
            have hk9 := hro.cls hk9
            have hO : SO D H36 a N q2 sm fo ho (.ref sa2) (.ref lb2) := KP.at hk9 hO (fun z => absurd (hro.2.2.1.symm.trans z) (by decide))
            have hB : SB D cA H36 q2 sm fo ho rfi rhe (ap1 rab mA q1) rsm (mA + 1) (ap1 ax mA kb15) (ap1 ay mA kb32) mS sx sy mn fr tt := SB.kp hro hk9 (by decide) hB
            have hGs : GZ D H36 sa2 N rsa2 (fun i j => bt (al i) j) := hGs.rr hk9 (by decide) hgr.1 hgr.2.2.1
            have hGl : GZ D H36 lb2 N rla2 (fun i j => bt ((lkU be (al kb15 ||| to kb15) (al kb32 ||| be kb32) N) i) j) := hGl.rr hk9 (by decide) hgr.2.1 hgr.2.2.2
            have hz : S0 ≤ H36.size := Nat.le_trans hz hk9.1
            have hC : va_P D vwCl (WX cA ad N al (lkU be (al kb15 ||| to kb15) (al kb32 ||| be kb32) N) (lkU to (al kb32 ||| be kb32) (al kb15 ||| to kb15) N) (arO N (lkU be (al kb15 ||| to kb15) (al kb32 ||| be kb32) N) od N) (arP N (lkU be (al kb15 ||| to kb15) (al kb32 ||| be kb32) N) ph N) mn bu fi la tb tf tl) H36 := hC9
            have hD : va_D (fun _ => True) (WX cA ad N al (lkU be (al kb15 ||| to kb15) (al kb32 ||| be kb32) N) (lkU to (al kb32 ||| be kb32) (al kb15 ||| to kb15) N) (arO N (lkU be (al kb15 ||| to kb15) (al kb32 ||| be kb32) N) od N) (arP N (lkU be (al kb15 ||| to kb15) (al kb32 ||| be kb32) N) ph N) mn bu fi la tb tf tl) := hD.adr rfl
            refine W.eq (g2 := F0 m 409 ls [.int (nI (ct (bt ((lkU be (al kb15 ||| to kb15) (al kb32 ||| be kb32) N) kb15)) 14))]) rfl ?_
            refine lv_iload hx hb dL_act_409 (lv_at hl 3 rfl) ?_
            have hct37 := ct_le ((bt ((lkU be (al kb15 ||| to kb15) (al kb32 ||| be kb32) N) kb15))) N
            have hct38 := ct_le ((bt ((lkU be (al kb15 ||| to kb15) (al kb32 ||| be kb32) N) kb15))) 14
            refine my_neN (x := ct (bt ((lkU be (al kb15 ||| to kb15) (al kb32 ||| be kb32) N) kb15)) 14) (y := ct (bt ((lkU be (al kb15 ||| to kb15) (al kb32 ||| be kb32) N) kb15)) N) (tgt := 418) hx hb dL_act_411 (by decide) (by omega) (by omega) (fun h9 => absurd (ct14b hU2.1.R hkb15) h9) (fun _ => ?_)
            refine lv_iconst (v := 1) hx hb dL_act_414 (by decide) ?_
            refine lv_goto (tgt := 419) hx hb dL_act_415 (by decide) ?_
            exact LQ_zret hx hb hr hlk dL_act_419 (by omega) (by omega) ⟨rfl, N, hN0, LV.mk (hU2.up (by omega)) hC hD hO hB hro⟩ hS (by decide)
          · refine lv_aload hx hb dL_act_373 (lv_at hl 2 rfl) ?_
            refine lv_iload hx hb dL_act_375 (lv_at hl 0 rfl) ?_
            refine fa_zald (D := D) (j := q) hx hb hK (hGl.2 kb15 (by omega)) (by omega) (by omega) dL_act_377 ?_
            refine lv_istore (lv' := [(11, .int (bI (bt ((lkU be (al kb15 ||| to kb15) (al kb32 ||| be kb32) N) kb15) q))), (10, .int (nI q)), (9, .int (nI N)), (8, .ref (rla2 kb15)), (7, .int (nI (ct (bt ((lkU be (al kb15 ||| to kb15) (al kb32 ||| be kb32) N) kb15)) q))), (5, .int (nI kb32)), (4, .int (nI kb15)), (3, .int (nI N)), (0, .ref (ad 0)), (1, .ref a), (2, .int x)]) hx hb dL_act_378 hl (by decide) rfl (fun ls hl => ?_)
            refine lv_iload hx hb dL_act_380 (lv_at hl 4 rfl) ?_
            suffices jn40 : ∀ ls, lv_has ls 13 [(11, .int (bI (bt ((lkU be (al kb15 ||| to kb15) (al kb32 ||| be kb32) N) kb15) q))), (10, .int (nI q)), (9, .int (nI N)), (8, .ref (rla2 kb15)), (7, .int (nI (ct (bt ((lkU be (al kb15 ||| to kb15) (al kb32 ||| be kb32) N) kb15)) q))), (5, .int (nI kb32)), (4, .int (nI kb15)), (3, .int (nI N)), (0, .ref (ad 0)), (1, .ref a), (2, .int x)] → W p l e { frames := 5, cells := 60, slots := 900, locals := 115 } s m ([.ref (ad 0), .ref a, .int x] : List Value).toArray below meth c H33 locs (0 + 26 + 1 + 1 + 26) (0 + 312 + 2 + 201 + 312) (MQ below (lqQ (fun v H1 => v = some (.int 1) ∧ LX D cA S0 ad a (B + 1) H1) (fun q => S0 ≤ q) H0) ([.ref (ad 0), .ref a, .int x] : List Value).toArray s 60 900 (fun q => S0 ≤ q)) (F0 m 392 ls [.int (nI (if bt ((lkU be (al kb15 ||| to kb15) (al kb32 ||| be kb32) N) kb15) q then 1 else 0)), .int (nI (ct (bt ((lkU be (al kb15 ||| to kb15) (al kb32 ||| be kb32) N) kb15)) q))]) by
              refine lv_iload hx hb dL_act_382 (lv_at hl 0 rfl) ?_
              refine my_ifeq_b (tgt := 391) hx hb dL_act_384 (by decide) (fun h41 => ?_) (fun h41 => ?_)
              · refine lv_iconst (v := 0) hx hb dL_act_391 (by decide) ?_
                have e9 : (0 : Int32) = nI (if bt ((lkU be (al kb15 ||| to kb15) (al kb32 ||| be kb32) N) kb15) q then 1 else 0) := (by first | exact bN_f h41 | exact bN_f (by simp [h26, h27, h35, h41]))
                exact W.eq (congrArg (fun v9 => F0 m 392 ls [.int v9, .int (nI (ct (bt ((lkU be (al kb15 ||| to kb15) (al kb32 ||| be kb32) N) kb15)) q))]) e9) (jn40 _ hl)
              · refine lv_iconst (v := 1) hx hb dL_act_387 (by decide) ?_
                refine lv_goto (tgt := 392) hx hb dL_act_388 (by decide) ?_
                have e9 : (1 : Int32) = nI (if bt ((lkU be (al kb15 ||| to kb15) (al kb32 ||| be kb32) N) kb15) q then 1 else 0) := (by first | exact bN_t h41 | exact bN_t (by simp [h26, h27, h35, h41]))
                exact W.eq (congrArg (fun v9 => F0 m 392 ls [.int v9, .int (nI (ct (bt ((lkU be (al kb15 ||| to kb15) (al kb32 ||| be kb32) N) kb15)) q))]) e9) (jn40 _ hl)
            intro ls hl
            refine my_iaddN (x := ct (bt ((lkU be (al kb15 ||| to kb15) (al kb32 ||| be kb32) N) kb15)) q) (y := (if bt ((lkU be (al kb15 ||| to kb15) (al kb32 ||| be kb32) N) kb15) q then 1 else 0)) hx hb dL_act_392 ?_
            refine lv_istore (lv' := [(7, .int (nI ((ct (bt ((lkU be (al kb15 ||| to kb15) (al kb32 ||| be kb32) N) kb15)) q) + (if bt ((lkU be (al kb15 ||| to kb15) (al kb32 ||| be kb32) N) kb15) q then 1 else 0)))), (11, .int (bI (bt ((lkU be (al kb15 ||| to kb15) (al kb32 ||| be kb32) N) kb15) q))), (10, .int (nI q)), (9, .int (nI N)), (8, .ref (rla2 kb15)), (5, .int (nI kb32)), (4, .int (nI kb15)), (3, .int (nI N)), (0, .ref (ad 0)), (1, .ref a), (2, .int x)]) hx hb dL_act_393 hl (by decide) rfl (fun ls hl => ?_)
            refine lv_iinc (v := nI (q + 1)) (x := nI q) (lv' := [(10, .int (nI (q + 1))), (7, .int (nI ((ct (bt ((lkU be (al kb15 ||| to kb15) (al kb32 ||| be kb32) N) kb15)) q) + (if bt ((lkU be (al kb15 ||| to kb15) (al kb32 ||| be kb32) N) kb15) q then 1 else 0)))), (11, .int (bI (bt ((lkU be (al kb15 ||| to kb15) (al kb32 ||| be kb32) N) kb15) q))), (9, .int (nI N)), (8, .ref (rla2 kb15)), (5, .int (nI kb32)), (4, .int (nI kb15)), (3, .int (nI N)), (0, .ref (ad 0)), (1, .ref a), (2, .int x)]) hx hb dL_act_395 hl (k := 2) rfl (nI_1 q) (by decide) rfl (fun ls hl => ?_)
            refine lv_goto (tgt := 366) hx hb dL_act_398 (by decide) ?_
            exact ih366 (q + 1) (nI ((ct (bt ((lkU be (al kb15 ||| to kb15) (al kb32 ||| be kb32) N) kb15)) q) + (if bt ((lkU be (al kb15 ||| to kb15) (al kb32 ||| be kb32) N) kb15) q then 1 else 0))) (by omega) (by omega) (by first | rfl | simp [h26, h27, h35])  _ (lv_sub hl [0, 3, 4, 1, 5, 6, 7, 8, 9, 10] rfl)
      · refine lv_iconst (v := 1) hx hb dL_act_315 (by decide) ?_
        exact LQ_zret hx hb hr hlk dL_act_316 (by omega) (by omega) ⟨rfl, N, hN0, LV.mk (hU.up (by omega)) hC hD hO hB hro⟩ hS (by decide)
  have t420 : W p l e { frames := 5, cells := 60, slots := 900, locals := 115 } s m ([.ref (ad 0), .ref a, .int x] : List Value).toArray below meth c H3 locs (0 + 26) (0 + 312) (MQ below (lqQ (fun v H1 => v = some (.int 1) ∧ LX D cA S0 ad a (B + 1) H1) (fun q => S0 ≤ q) H0) ([.ref (ad 0), .ref a, .int x] : List Value).toArray s 60 900 (fun q => S0 ≤ q)) (F0 m 420 ls []) := by
    refine lv_iload_n hx hb dL_act_420 rfl (lv_at hl 5 rfl) ?_
    refine lv_iconst (v := 2) hx hb dL_act_421 (by decide) ?_
    refine lv_ishr hx hb dL_act_422 ?_
    refine lv_iconst (v := 4) hx hb dL_act_423 (by decide) ?_
    refine RO_go (va_runS (As := [.int ((x : Int32) >>> (2 &&& 31)), .int 4]) (rest := []) ⟨hx, hb, hml, hown, hts⟩ (c_L_below l (D := D) (cA := cA) (H0 := H3) ((x : Int32) >>> (2 &&& 31)) 4 (by omega) (by omega)) (va_cwS 2 hts gL_act_L_below rfl rfl rfl (by decide +kernel) ⟨Nat.le_of_ble_eq_true rfl, Nat.le_of_ble_eq_true rfl⟩) (cP_S hK) rfl rfl hl.1 rfl (lv_room (Nat.le_of_ble_eq_true rfl)) dL_act_424 ⟨by show _ ≤ 60; omega, by show _ ≤ 900; omega⟩) ?_
    obtain ⟨kb424, hkb424, ekb424⟩ := bel_ex ((x : Int32) >>> (2 &&& 31)) (u := 4) (by omega) (by omega)
    rw [ekb424]
    refine lv_istore (lv' := [(8, .int (nI kb424)), (5, .int (nI kb32)), (4, .int (nI kb15)), (3, .int (nI N)), (0, .ref (ad 0)), (1, .ref a), (2, .int x)]) hx hb dL_act_427 hl (by decide) rfl (fun ls hl => ?_)
    refine lv_aload_n hx hb dL_act_429 rfl (lv_at hl 5 rfl) ?_
    refine fa_get (D := D) (ci := 4) (v := .ref fo) (C := RX4) (T := TX4) (N := 7) hx hb hts hinX4 hown hK hO rfl 3 (by decide) (hts (.fieldLink RL 54 "CairnShellsLaw$Sim" "finds" "[[I") (by decide +kernel)) (fun _ h9 => h9) rfl dL_act_430 ?_
    refine lv_iload hx hb dL_act_433 (lv_at hl 2 rfl) ?_
    refine fa_aald 2 hx hb hK rfl rfl hB.2.2.1.1 rfl (by omega) (by omega) dL_act_435 ?_
    refine lv_iload hx hb dL_act_436 (lv_at hl 0 rfl) ?_
    refine fa_iald (D := D) (j := kb424) hx hb hK (hB.2.2.1.2 kb15 (by omega)) (by omega) (by omega) dL_act_438 ?_
    refine W.eq (g2 := F0 m 439 ls [.int (mn (kb15 * 4 + kb424))]) rfl ?_
    refine lv_istore (lv' := [(9, .int (mn (kb15 * 4 + kb424))), (8, .int (nI kb424)), (5, .int (nI kb32)), (4, .int (nI kb15)), (3, .int (nI N)), (0, .ref (ad 0)), (1, .ref a), (2, .int x)]) hx hb dL_act_439 hl (by decide) rfl (fun ls hl => ?_)
    refine lv_aload_n hx hb dL_act_441 rfl (lv_at hl 6 rfl) ?_
    refine fa_get (D := D) (ci := 4) (v := .ref fo) (C := RX4) (T := TX4) (N := 7) hx hb hts hinX4 hown hK hO rfl 3 (by decide) (hts (.fieldLink RL 54 "CairnShellsLaw$Sim" "finds" "[[I") (by decide +kernel)) (fun _ h9 => h9) rfl dL_act_442 ?_
    refine lv_iload hx hb dL_act_445 (lv_at hl 3 rfl) ?_
    refine fa_aald 2 hx hb hK rfl rfl hB.2.2.1.1 rfl (by omega) (by omega) dL_act_447 ?_
    refine lv_iload hx hb dL_act_448 (lv_at hl 1 rfl) ?_
    suffices cu42 : ∀ z : Nat, z ≤ 99 → ∀ ls, lv_has ls 13 [(9, .int (mn (kb15 * 4 + kb424))), (8, .int (nI kb424)), (5, .int (nI kb32)), (4, .int (nI kb15)), (3, .int (nI N)), (0, .ref (ad 0)), (1, .ref a), (2, .int x)] → W p l e { frames := 5, cells := 60, slots := 900, locals := 115 } s m ([.ref (ad 0), .ref a, .int x] : List Value).toArray below meth c H3 locs (0 + 26) (0 + 312) (MQ below (lqQ (fun v H1 => v = some (.int 1) ∧ LX D cA S0 ad a (B + 1) H1) (fun q => S0 ≤ q) H0) ([.ref (ad 0), .ref a, .int x] : List Value).toArray s 60 900 (fun q => S0 ≤ q)) (F0 m 474 ls [.int (nI z), .int (nI kb424), .ref (rfi kb15)]) by
      refine lv_iload_n hx hb dL_act_450 rfl (lv_at hl 7 rfl) ?_
      refine lv_iconst (v := 4) hx hb dL_act_451 (by decide) ?_
      refine lv_ishr hx hb dL_act_452 ?_
      refine lv_iload_n hx hb dL_act_453 rfl (lv_at hl 7 rfl) ?_
      refine lv_bipush (v := 6) hx hb dL_act_454 (by decide) ?_
      refine lv_ishr hx hb dL_act_456 ?_
      refine lv_iconst (v := 2) hx hb dL_act_457 (by decide) ?_
      refine RO_go (va_runS (As := [.int ((x : Int32) >>> (6 &&& 31)), .int 2]) (rest := [.int ((x : Int32) >>> (4 &&& 31)), .int (nI kb424), .ref (rfi kb15)]) ⟨hx, hb, hml, hown, hts⟩ (c_L_below l (D := D) (cA := cA) (H0 := H3) ((x : Int32) >>> (6 &&& 31)) 2 (by omega) (by omega)) (va_cwS 2 hts gL_act_L_below rfl rfl rfl (by decide +kernel) ⟨Nat.le_of_ble_eq_true rfl, Nat.le_of_ble_eq_true rfl⟩) (cP_S hK) rfl rfl hl.1 rfl (lv_room (Nat.le_of_ble_eq_true rfl)) dL_act_458 ⟨by show _ ≤ 60; omega, by show _ ≤ 900; omega⟩) ?_
      obtain ⟨kb458, hkb458, ekb458⟩ := bel_ex ((x : Int32) >>> (6 &&& 31)) (u := 2) (by omega) (by omega)
      rw [ekb458]
      refine lv_if_ne (tgt := 469) hx hb dL_act_461 (by decide) (fun h43 => ?_) (fun h43 => ?_)
      · refine lv_bipush (v := 6) hx hb dL_act_469 (by decide) ?_
        refine RO_go (va_runS (As := [.int ((x : Int32) >>> (4 &&& 31)), .int 6]) (rest := [.int (nI kb424), .ref (rfi kb15)]) ⟨hx, hb, hml, hown, hts⟩ (c_L_below l (D := D) (cA := cA) (H0 := H3) ((x : Int32) >>> (4 &&& 31)) 6 (by omega) (by omega)) (va_cwS 2 hts gL_act_L_below rfl rfl rfl (by decide +kernel) ⟨Nat.le_of_ble_eq_true rfl, Nat.le_of_ble_eq_true rfl⟩) (cP_S hK) rfl rfl hl.1 rfl (lv_room (Nat.le_of_ble_eq_true rfl)) dL_act_471 ⟨by show _ ≤ 60; omega, by show _ ≤ 900; omega⟩) ?_
        obtain ⟨kb471, hkb471, ekb471⟩ := bel_ex ((x : Int32) >>> (4 &&& 31)) (u := 6) (by omega) (by omega)
        rw [ekb471]
        exact cu42 kb471 (by omega) _ (lv_sub hl [0, 1, 2, 3, 4, 5, 6, 7] rfl)
      · refine lv_bipush (v := 100) hx hb dL_act_464 (by decide) ?_
        refine lv_goto (tgt := 471) hx hb dL_act_466 (by decide) ?_
        refine RO_go (va_runS (As := [.int ((x : Int32) >>> (4 &&& 31)), .int 100]) (rest := [.int (nI kb424), .ref (rfi kb15)]) ⟨hx, hb, hml, hown, hts⟩ (c_L_below l (D := D) (cA := cA) (H0 := H3) ((x : Int32) >>> (4 &&& 31)) 100 (by omega) (by omega)) (va_cwS 2 hts gL_act_L_below rfl rfl rfl (by decide +kernel) ⟨Nat.le_of_ble_eq_true rfl, Nat.le_of_ble_eq_true rfl⟩) (cP_S hK) rfl rfl hl.1 rfl (lv_room (Nat.le_of_ble_eq_true rfl)) dL_act_471 ⟨by show _ ≤ 60; omega, by show _ ≤ 900; omega⟩) ?_
        obtain ⟨kb471, hkb471, ekb471⟩ := bel_ex ((x : Int32) >>> (4 &&& 31)) (u := 100) (by omega) (by omega)
        rw [ekb471]
        exact cu42 kb471 (by omega) _ (lv_sub hl [0, 1, 2, 3, 4, 5, 6, 7] rfl)
    intro z hz0 ls hl
    refine fa_iast (D := D) (j := kb424) hx hb hK (hB.2.2.1.2 kb15 (by omega)) hS (hro.S (by rw [hro.2.2.2.2.2.2.2.1 kb15 (by omega)]; decide)) (by omega) (by omega) dL_act_474 (fun H44 locs h89 ho9 hS => ?_)
    have hk9 := RR.on (hro.2.2.2.2.2.2.2.1 kb15 (by omega)) ho9
    have hB9 := SB.sif (by omega) (by omega) hro hB h89 ho9
    have hC : va_P D vwCl (WX cA ad N al be to od ph mn bu fi la tb tf tl) H44 := cls_kp hro hk9 (by decide) hC
    have hO : SO D H44 a N ab sm fo ho (.ref sa1) (.ref lb1) := KP.at hk9 hO (fun z => absurd (hro.2.2.1.symm.trans z) (by decide))
    have hGs : GZ D H44 sa1 N rsa1 (fun i j => bt (al i) j) := hGs.rr hk9 (by decide) hgr.1 hgr.2.2.1
    have hGl : GZ D H44 lb1 N rla1 (fun i j => bt (be i) j) := hGl.rr hk9 (by decide) hgr.2.1 hgr.2.2.2
    have hz : S0 ≤ H44.size := Nat.le_trans hz hk9.1
    have hB : SB D cA H44 ab sm fo ho rfi rhe rab rsm mA ax ay mS sx sy (upd mn (kb15 * 4 + kb424) (nI z)) fr tt := hB9
    have hU2 := hU.sift (z := z) hkb15 hkb424 hz0
    refine lv_aload_n hx hb dL_act_475 rfl (lv_at hl 5 rfl) ?_
    refine lv_iload hx hb dL_act_476 (lv_at hl 3 rfl) ?_
    refine lv_iload hx hb dL_act_478 (lv_at hl 1 rfl) ?_
    refine lv_aload_n hx hb dL_act_480 rfl (lv_at hl 6 rfl) ?_
    refine fa_get (D := D) (ci := 4) (v := .ref fo) (C := RX4) (T := TX4) (N := 7) hx hb hts hinX4 hown hK hO rfl 3 (by decide) (hts (.fieldLink RL 54 "CairnShellsLaw$Sim" "finds" "[[I") (by decide +kernel)) (fun _ h9 => h9) rfl dL_act_481 ?_
    refine lv_iload hx hb dL_act_484 (lv_at hl 3 rfl) ?_
    refine fa_aald 2 hx hb hK rfl rfl hB.2.2.1.1 rfl (by omega) (by omega) dL_act_486 ?_
    refine lv_iload hx hb dL_act_487 (lv_at hl 1 rfl) ?_
    refine fa_iald (D := D) (j := kb424) hx hb hK (hB.2.2.1.2 kb15 (by omega)) (by omega) (by omega) dL_act_489 ?_
    refine W.eq (g2 := F0 m 490 ls [.int ((upd mn (kb15 * 4 + kb424) (nI z)) (kb15 * 4 + kb424)), .int (nI kb424), .int (nI kb15), .ref (ad 0)]) rfl ?_
    rw [pk_us]
    refine WRL_go (va_runV (As := [.int (nI kb15), .int (nI kb424), .int (nI z)]) (rest := []) ⟨hx, hb, hml, hown, hts⟩ (k_sift l kb15 kb424 z hU.1 hC hD hkb15 hkb424 hz0) (cwV 3 hts gL_act_X3_sift rfl rfl rfl (by decide +kernel) ⟨Nat.le_of_ble_eq_true rfl, Nat.le_of_ble_eq_true rfl⟩) (cP_V hK (va_recv hK.1 (AT.one (hC 0 _ rfl)) (ci := 3) (q0 := 0) rfl rfl)) rfl rfl hl.1 rfl (lv_room (Nat.le_of_ble_eq_true rfl)) dL_act_490 ⟨by show _ ≤ 60; omega, by show _ ≤ 900; omega⟩) hS (hro.clsA hz) (fun H45 locs hC9 hk9 hS => ?_)
    have hk9 := hro.cls hk9
    have hO : SO D H45 a N ab sm fo ho (.ref sa1) (.ref lb1) := KP.at hk9 hO (fun z => absurd (hro.2.2.1.symm.trans z) (by decide))
    have hB : SB D cA H45 ab sm fo ho rfi rhe rab rsm mA ax ay mS sx sy (upd mn (kb15 * 4 + kb424) (nI z)) fr tt := SB.kp hro hk9 (by decide) hB
    have hGs : GZ D H45 sa1 N rsa1 (fun i j => bt (al i) j) := hGs.rr hk9 (by decide) hgr.1 hgr.2.2.1
    have hGl : GZ D H45 lb1 N rla1 (fun i j => bt (be i) j) := hGl.rr hk9 (by decide) hgr.2.1 hgr.2.2.2
    have hz : S0 ≤ H45.size := Nat.le_trans hz hk9.1
    have hC : va_P D vwCl (WX cA ad N al be to od ph (upd mn (kb15 * 4 + kb424) (nI z)) bu fi la tb tf tl) H45 := hC9
    have hD : va_D (fun _ => True) (WX cA ad N al be to od ph (upd mn (kb15 * 4 + kb424) (nI z)) bu fi la tb tf tl) := hD.adr rfl
    refine W.eq (g2 := F0 m 493 ls [.int (mn (kb15 * 4 + kb424))]) rfl ?_
    refine lv_iload hx hb dL_act_493 (lv_at hl 0 rfl) ?_
    refine lv_icmp_ne (tgt := 502) hx hb dL_act_495 (by decide) (fun h9 => absurd rfl h9) (fun _ => ?_)
    refine lv_iconst (v := 1) hx hb dL_act_498 (by decide) ?_
    refine lv_goto (tgt := 503) hx hb dL_act_499 (by decide) ?_
    exact LQ_zret hx hb hr hlk dL_act_503 (by omega) (by omega) ⟨rfl, N, hN0, LV.mk (hU2.up (by omega)) hC hD hO hB hro⟩ hS (by decide)
  have t504 : W p l e { frames := 5, cells := 60, slots := 900, locals := 115 } s m ([.ref (ad 0), .ref a, .int x] : List Value).toArray below meth c H3 locs (0 + 26) (0 + 312) (MQ below (lqQ (fun v H1 => v = some (.int 1) ∧ LX D cA S0 ad a (B + 1) H1) (fun q => S0 ≤ q) H0) ([.ref (ad 0), .ref a, .int x] : List Value).toArray s 60 900 (fun q => S0 ≤ q)) (F0 m 504 ls []) := by
    refine lv_aload_n hx hb dL_act_504 rfl (lv_at hl 4 rfl) ?_
    refine fa_get (D := D) (ci := 4) (v := .ref ho) (C := RX4) (T := TX4) (N := 7) hx hb hts hinX4 hown hK hO rfl 4 (by decide) (hts (.fieldLink RL 61 "CairnShellsLaw$Sim" "hearths" "[[I") (by decide +kernel)) (fun _ h9 => h9) rfl dL_act_505 ?_
    refine lv_iload hx hb dL_act_508 (lv_at hl 1 rfl) ?_
    refine fa_aald 2 hx hb hK rfl rfl hB.2.2.2.1 rfl (by omega) (by omega) dL_act_510 ?_
    refine lv_iconst (v := 0) hx hb dL_act_511 (by decide) ?_
    refine fa_iald (D := D) (j := 0) hx hb hK (hB.2.2.2.2 kb15 (by omega)) (by omega) (by omega) dL_act_512 ?_
    refine W.eq (g2 := F0 m 513 ls [.int (fr kb15)]) rfl ?_
    refine lv_if_ge (tgt := 518) hx hb dL_act_513 (by decide) (fun h47 => ?_) (fun h47 => ?_)
    · refine lv_aload_n hx hb dL_act_518 rfl (lv_at hl 4 rfl) ?_
      refine fa_get (D := D) (ci := 4) (v := .ref ho) (C := RX4) (T := TX4) (N := 7) hx hb hts hinX4 hown hK hO rfl 4 (by decide) (hts (.fieldLink RL 61 "CairnShellsLaw$Sim" "hearths" "[[I") (by decide +kernel)) (fun _ h9 => h9) rfl dL_act_519 ?_
      refine lv_iload hx hb dL_act_522 (lv_at hl 1 rfl) ?_
      refine fa_aald 2 hx hb hK rfl rfl hB.2.2.2.1 rfl (by omega) (by omega) dL_act_524 ?_
      refine lv_iconst (v := 0) hx hb dL_act_525 (by decide) ?_
      refine fa_iald (D := D) (j := 0) hx hb hK (hB.2.2.2.2 kb15 (by omega)) (by omega) (by omega) dL_act_526 ?_
      refine W.eq (g2 := F0 m 527 ls [.int (fr kb15)]) rfl ?_
      refine lv_istore (lv' := [(10, .int (fr kb15)), (5, .int (nI kb32)), (4, .int (nI kb15)), (3, .int (nI N)), (0, .ref (ad 0)), (1, .ref a), (2, .int x)]) hx hb dL_act_527 hl (by decide) rfl (fun ls hl => ?_)
      refine lv_aload_n hx hb dL_act_529 rfl (lv_at hl 5 rfl) ?_
      refine fa_get (D := D) (ci := 4) (v := .ref ho) (C := RX4) (T := TX4) (N := 7) hx hb hts hinX4 hown hK hO rfl 4 (by decide) (hts (.fieldLink RL 61 "CairnShellsLaw$Sim" "hearths" "[[I") (by decide +kernel)) (fun _ h9 => h9) rfl dL_act_530 ?_
      refine lv_iload hx hb dL_act_533 (lv_at hl 2 rfl) ?_
      refine lv_iconst (v := 2) hx hb dL_act_535 (by decide) ?_
      have hro7 := fun g9 => hro.new hC hO hB g9
      have haz9 := AT.lt hO
      have hgr7 := gr9_keep hgr hGs hGl
      refine fa_newI (D := D) (N' := 2) hx hb (hts (.arrayClass .int) (by decide +kernel)) hK hS (by omega) (by show _ ≤ 60; omega) (by show _ ≤ 900; omega) dL_act_536 (fun q1 H48 hq1 eq1 hE9 hS => ?_)
      have hzq1 : S0 ≤ q1 := by rw [eq1]; exact hz
      have hhz9 : ho < q1 := by rw [eq1]; exact AT.lt hB.2.2.2.1
      refine lv_dup hx hb dL_act_538 rfl ?_
      refine lv_iconst (v := 0) hx hb dL_act_539 (by decide) ?_
      refine lv_iconst (v := (-1)) hx hb dL_act_540 (by decide) ?_
      refine fa_iast (D := D) (j := 0) hx hb hK hq1 hS hzq1 (by omega) (by omega) dL_act_541 (fun H49 locs hq1 ho9 hS => ?_)
      have hE9 := ho9.ex hE9 (Nat.le_of_eq eq1.symm)
      refine lv_dup hx hb dL_act_542 rfl ?_
      refine lv_iconst (v := 1) hx hb dL_act_543 (by decide) ?_
      refine lv_iconst (v := (-1)) hx hb dL_act_544 (by decide) ?_
      refine fa_iast (D := D) (j := 1) hx hb hK hq1 hS hzq1 (by omega) (by omega) dL_act_545 (fun H50 locs hq1 ho9 hS => ?_)
      have hE9 := ho9.ex hE9 (Nat.le_of_eq eq1.symm)
      have hq1 : AT D q1 (.inl (cA, 2, .inl (r2M (-1) (-1)))) H50 := hq1
      have hC : va_P D vwCl (WX cA ad N al be to od ph mn bu fi la tb tf tl) H50 := EX.P hE9 hC
      have hO : SO D H50 a N ab sm fo ho (.ref sa1) (.ref lb1) := EX.at hE9 hO
      have hB : SB D cA H50 ab sm fo ho rfi rhe rab rsm mA ax ay mS sx sy mn fr tt := hB.ex hE9
      have hGs : GZ D H50 sa1 N rsa1 (fun i j => bt (al i) j) := hGs.ex hE9
      have hGl : GZ D H50 lb1 N rla1 (fun i j => bt (be i) j) := hGl.ex hE9
      have hz : S0 ≤ H50.size := Nat.le_trans hz hE9.1
      clear hro hgr
      obtain ⟨ro, hro, hgr, hrq1⟩ : ∃ ro : Nat → Nat, RR ro S0 ad a ab sm fo ho rfi rhe rab rsm mA mS ∧ GR ro sa1 lb1 N rsa1 rla1 ∧ ro q1 = 7 := ⟨_, hro7 (fun _ => 7), hgr7 (fun _ => 7), if_pos (Nat.le_of_eq eq1.symm)⟩
      refine fa_aast (D := D) (j := kb15) hx hb hK hB.2.2.2.1 hq1 hS (hro.S (by rw [hro.2.2.2.2.2.2.1]; decide)) (by omega) (by omega) dL_act_546 (fun H51 locs hh9 ho9 hS => ?_)
      have hk9 := RR.on hro.2.2.2.2.2.2.1 ho9
      have hq1 := ho9.at hq1 (fun e9 => by have h7 := hhz9; omega)
      have hB9 := SB.hea (j := kb15) hro hB ho9 hh9 hq1
      have hC : va_P D vwCl (WX cA ad N al be to od ph mn bu fi la tb tf tl) H51 := cls_kp hro hk9 (by decide) hC
      have hO : SO D H51 a N ab sm fo ho (.ref sa1) (.ref lb1) := KP.at hk9 hO (fun z => absurd (hro.2.2.1.symm.trans z) (by decide))
      have hGs : GZ D H51 sa1 N rsa1 (fun i j => bt (al i) j) := hGs.rr hk9 (by decide) hgr.1 hgr.2.2.1
      have hGl : GZ D H51 lb1 N rla1 (fun i j => bt (be i) j) := hGl.rr hk9 (by decide) hgr.2.1 hgr.2.2.2
      have hz : S0 ≤ H51.size := Nat.le_trans hz hk9.1
      have hB : SB D cA H51 ab sm fo ho rfi (ap1 rhe kb15 q1) rab rsm mA ax ay mS sx sy mn (upd fr kb15 (-1)) (upd tt kb15 (-1)) := hB9
      have hro : RR ro S0 ad a ab sm fo ho rfi (ap1 rhe kb15 q1) rab rsm mA mS := hro.hea (j := kb15) hrq1
      have hdt : dtd fr kb15 = true := hU.1.dtd1 hkb15 (fun q9 => (fa_of_lt q9).2.1 h47)
      have hbu : bt bu kb15 = true := by rw [hU.1.B kb15, decide_eq_true hkb15, hdt]; rfl
      have hff : fi kb15 = fr kb15 := ((hU.1.H kb15 hkb15).1 hdt).1
      have hU2 := hU.clear hkb15
      refine lv_aload_n hx hb dL_act_547 rfl (lv_at hl 4 rfl) ?_
      refine lv_iload hx hb dL_act_548 (lv_at hl 2 rfl) ?_
      refine WRL_go (va_runV (As := [.int (nI kb15)]) (rest := []) ⟨hx, hb, hml, hown, hts⟩ (k_clear l kb15 hU.1 hC hD hkb15 hbu) (cwV 1 hts gL_act_X3_clear rfl rfl rfl (by decide +kernel) ⟨Nat.le_of_ble_eq_true rfl, Nat.le_of_ble_eq_true rfl⟩) (cP_V hK (va_recv hK.1 (AT.one (hC 0 _ rfl)) (ci := 3) (q0 := 0) rfl rfl)) rfl rfl hl.1 rfl (lv_room (Nat.le_of_ble_eq_true rfl)) dL_act_550 ⟨by show _ ≤ 60; omega, by show _ ≤ 900; omega⟩) hS (hro.clsA hz) (fun H52 locs hC9 hk9 hS => ?_)
      have hk9 := hro.cls hk9
      have hO : SO D H52 a N ab sm fo ho (.ref sa1) (.ref lb1) := KP.at hk9 hO (fun z => absurd (hro.2.2.1.symm.trans z) (by decide))
      have hB : SB D cA H52 ab sm fo ho rfi (ap1 rhe kb15 q1) rab rsm mA ax ay mS sx sy mn (upd fr kb15 (-1)) (upd tt kb15 (-1)) := SB.kp hro hk9 (by decide) hB
      have hGs : GZ D H52 sa1 N rsa1 (fun i j => bt (al i) j) := hGs.rr hk9 (by decide) hgr.1 hgr.2.2.1
      have hGl : GZ D H52 lb1 N rla1 (fun i j => bt (be i) j) := hGl.rr hk9 (by decide) hgr.2.1 hgr.2.2.2
      have hz : S0 ≤ H52.size := Nat.le_trans hz hk9.1
      have hC : va_P D vwCl (WX cA ad N al be to od ph mn (bu &&& (((1 : Int32) <<< (nI kb15 &&& 31)) ^^^ (-1))) (upd fi kb15 0) (upd la kb15 9999) tb tf tl) H52 := hC9
      have hD : va_D (fun _ => True) (WX cA ad N al be to od ph mn (bu &&& (((1 : Int32) <<< (nI kb15 &&& 31)) ^^^ (-1))) (upd fi kb15 0) (upd la kb15 9999) tb tf tl) := hD.adr rfl
      refine W.eq (g2 := F0 m 553 ls [.int (fi kb15)]) rfl ?_
      refine lv_iload hx hb dL_act_553 (lv_at hl 0 rfl) ?_
      refine lv_icmp_ne (tgt := 562) hx hb dL_act_555 (by decide) (fun h9 => absurd hff h9) (fun _ => ?_)
      refine lv_iconst (v := 1) hx hb dL_act_558 (by decide) ?_
      refine lv_goto (tgt := 563) hx hb dL_act_559 (by decide) ?_
      exact LQ_zret hx hb hr hlk dL_act_563 (by omega) (by omega) ⟨rfl, N, hN0, LV.mk (hU2.up (by omega)) hC hD hO hB hro⟩ hS (by decide)
    · refine lv_iconst (v := 1) hx hb dL_act_516 (by decide) ?_
      exact LQ_zret hx hb hr hlk dL_act_517 (by omega) (by omega) ⟨rfl, N, hN0, LV.mk (hU.up (by omega)) hC hD hO hB hro⟩ hS (by decide)
  have t564 : W p l e { frames := 5, cells := 60, slots := 900, locals := 115 } s m ([.ref (ad 0), .ref a, .int x] : List Value).toArray below meth c H3 locs (0 + 26) (0 + 312) (MQ below (lqQ (fun v H1 => v = some (.int 1) ∧ LX D cA S0 ad a (B + 1) H1) (fun q => S0 ≤ q) H0) ([.ref (ad 0), .ref a, .int x] : List Value).toArray s 60 900 (fun q => S0 ≤ q)) (F0 m 564 ls []) := by
    refine lv_iload_n hx hb dL_act_564 rfl (lv_at hl 5 rfl) ?_
    refine lv_iconst (v := 3) hx hb dL_act_565 (by decide) ?_
    refine lv_imul hx hb dL_act_566 ?_
    refine lv_sipush (v := 9900) hx hb dL_act_567 (by decide) ?_
    refine RO_go (va_runS (As := [.int (x * 3), .int 9900]) (rest := []) ⟨hx, hb, hml, hown, hts⟩ (c_L_below l (D := D) (cA := cA) (H0 := H3) (x * 3) 9900 (by omega) (by omega)) (va_cwS 2 hts gL_act_L_below rfl rfl rfl (by decide +kernel) ⟨Nat.le_of_ble_eq_true rfl, Nat.le_of_ble_eq_true rfl⟩) (cP_S hK) rfl rfl hl.1 rfl (lv_room (Nat.le_of_ble_eq_true rfl)) dL_act_570 ⟨by show _ ≤ 60; omega, by show _ ≤ 900; omega⟩) ?_
    obtain ⟨kb570, hkb570, ekb570⟩ := bel_ex (x * 3) (u := 9900) (by omega) (by omega)
    rw [ekb570]
    refine lv_istore (lv' := [(11, .int (nI kb570)), (5, .int (nI kb32)), (4, .int (nI kb15)), (3, .int (nI N)), (0, .ref (ad 0)), (1, .ref a), (2, .int x)]) hx hb dL_act_573 hl (by decide) rfl (fun ls hl => ?_)
    suffices cu54 : ∀ t : Nat, kb570 ≤ t → t ≤ 9999 → ∀ ls, lv_has ls 13 [(12, .int (nI t)), (11, .int (nI kb570)), (5, .int (nI kb32)), (4, .int (nI kb15)), (3, .int (nI N)), (0, .ref (ad 0)), (1, .ref a), (2, .int x)] → W p l e { frames := 5, cells := 60, slots := 900, locals := 115 } s m ([.ref (ad 0), .ref a, .int x] : List Value).toArray below meth c H3 locs (0 + 26) (0 + 312) (MQ below (lqQ (fun v H1 => v = some (.int 1) ∧ LX D cA S0 ad a (B + 1) H1) (fun q => S0 ≤ q) H0) ([.ref (ad 0), .ref a, .int x] : List Value).toArray s 60 900 (fun q => S0 ≤ q)) (F0 m 618 ls []) by
      refine lv_iload hx hb dL_act_575 (lv_at hl 0 rfl) ?_
      refine lv_iload_n hx hb dL_act_577 rfl (lv_at hl 6 rfl) ?_
      refine lv_iconst (v := 2) hx hb dL_act_578 (by decide) ?_
      refine lv_ishr hx hb dL_act_579 ?_
      refine lv_iload_n hx hb dL_act_580 rfl (lv_at hl 6 rfl) ?_
      refine lv_bipush (v := 7) hx hb dL_act_581 (by decide) ?_
      refine lv_ishr hx hb dL_act_583 ?_
      refine lv_iconst (v := 2) hx hb dL_act_584 (by decide) ?_
      refine RO_go (va_runS (As := [.int ((x : Int32) >>> (7 &&& 31)), .int 2]) (rest := [.int ((x : Int32) >>> (2 &&& 31)), .int (nI kb570)]) ⟨hx, hb, hml, hown, hts⟩ (c_L_below l (D := D) (cA := cA) (H0 := H3) ((x : Int32) >>> (7 &&& 31)) 2 (by omega) (by omega)) (va_cwS 2 hts gL_act_L_below rfl rfl rfl (by decide +kernel) ⟨Nat.le_of_ble_eq_true rfl, Nat.le_of_ble_eq_true rfl⟩) (cP_S hK) rfl rfl hl.1 rfl (lv_room (Nat.le_of_ble_eq_true rfl)) dL_act_585 ⟨by show _ ≤ 60; omega, by show _ ≤ 900; omega⟩) ?_
      obtain ⟨kb585, hkb585, ekb585⟩ := bel_ex ((x : Int32) >>> (7 &&& 31)) (u := 2) (by omega) (by omega)
      rw [ekb585]
      refine lv_if_ne (tgt := 596) hx hb dL_act_588 (by decide) (fun h55 => ?_) (fun h55 => ?_)
      · refine lv_sipush (v := 3000) hx hb dL_act_596 (by decide) ?_
        refine RO_go (va_runS (As := [.int ((x : Int32) >>> (2 &&& 31)), .int 3000]) (rest := [.int (nI kb570)]) ⟨hx, hb, hml, hown, hts⟩ (c_L_below l (D := D) (cA := cA) (H0 := H3) ((x : Int32) >>> (2 &&& 31)) 3000 (by omega) (by omega)) (va_cwS 2 hts gL_act_L_below rfl rfl rfl (by decide +kernel) ⟨Nat.le_of_ble_eq_true rfl, Nat.le_of_ble_eq_true rfl⟩) (cP_S hK) rfl rfl hl.1 rfl (lv_room (Nat.le_of_ble_eq_true rfl)) dL_act_599 ⟨by show _ ≤ 60; omega, by show _ ≤ 900; omega⟩) ?_
        obtain ⟨kb599, hkb599, ekb599⟩ := bel_ex ((x : Int32) >>> (2 &&& 31)) (u := 3000) (by omega) (by omega)
        rw [ekb599]
        refine my_iaddN (x := kb570) (y := kb599) hx hb dL_act_602 ?_
        refine lv_istore (lv' := [(12, .int (nI (kb570 + kb599))), (11, .int (nI kb570)), (5, .int (nI kb32)), (4, .int (nI kb15)), (3, .int (nI N)), (0, .ref (ad 0)), (1, .ref a), (2, .int x)]) hx hb dL_act_603 hl (by decide) rfl (fun ls hl => ?_)
        refine lv_iload hx hb dL_act_605 (lv_at hl 0 rfl) ?_
        refine lv_sipush (v := 9999) hx hb dL_act_607 (by decide) ?_
        refine my_leN (x := kb570 + kb599) (y := 9999) (tgt := 618) hx hb dL_act_610 (by decide) (by omega) (by omega) (fun h56 => ?_) (fun h56 => ?_)
        · exact cu54 (kb570 + kb599) (by omega) (by omega) _ (lv_sub hl [0, 1, 2, 3, 4, 5, 6, 7] rfl)
        · refine lv_sipush (v := 9999) hx hb dL_act_613 (by decide) ?_
          refine lv_istore (lv' := [(12, .int 9999), (11, .int (nI kb570)), (5, .int (nI kb32)), (4, .int (nI kb15)), (3, .int (nI N)), (0, .ref (ad 0)), (1, .ref a), (2, .int x)]) hx hb dL_act_616 hl (by decide) rfl (fun ls hl => ?_)
          exact cu54 9999 (by omega) (by omega) _ (lv_sub hl [0, 1, 2, 3, 4, 5, 6, 7] rfl)
      · refine lv_bipush (v := 100) hx hb dL_act_591 (by decide) ?_
        refine lv_goto (tgt := 599) hx hb dL_act_593 (by decide) ?_
        refine RO_go (va_runS (As := [.int ((x : Int32) >>> (2 &&& 31)), .int 100]) (rest := [.int (nI kb570)]) ⟨hx, hb, hml, hown, hts⟩ (c_L_below l (D := D) (cA := cA) (H0 := H3) ((x : Int32) >>> (2 &&& 31)) 100 (by omega) (by omega)) (va_cwS 2 hts gL_act_L_below rfl rfl rfl (by decide +kernel) ⟨Nat.le_of_ble_eq_true rfl, Nat.le_of_ble_eq_true rfl⟩) (cP_S hK) rfl rfl hl.1 rfl (lv_room (Nat.le_of_ble_eq_true rfl)) dL_act_599 ⟨by show _ ≤ 60; omega, by show _ ≤ 900; omega⟩) ?_
        obtain ⟨kb599, hkb599, ekb599⟩ := bel_ex ((x : Int32) >>> (2 &&& 31)) (u := 100) (by omega) (by omega)
        rw [ekb599]
        refine my_iaddN (x := kb570) (y := kb599) hx hb dL_act_602 ?_
        refine lv_istore (lv' := [(12, .int (nI (kb570 + kb599))), (11, .int (nI kb570)), (5, .int (nI kb32)), (4, .int (nI kb15)), (3, .int (nI N)), (0, .ref (ad 0)), (1, .ref a), (2, .int x)]) hx hb dL_act_603 hl (by decide) rfl (fun ls hl => ?_)
        refine lv_iload hx hb dL_act_605 (lv_at hl 0 rfl) ?_
        refine lv_sipush (v := 9999) hx hb dL_act_607 (by decide) ?_
        refine my_leN (x := kb570 + kb599) (y := 9999) (tgt := 618) hx hb dL_act_610 (by decide) (by omega) (by omega) (fun h57 => ?_) (fun h57 => ?_)
        · exact cu54 (kb570 + kb599) (by omega) (by omega) _ (lv_sub hl [0, 1, 2, 3, 4, 5, 6, 7] rfl)
        · refine lv_sipush (v := 9999) hx hb dL_act_613 (by decide) ?_
          refine lv_istore (lv' := [(12, .int 9999), (11, .int (nI kb570)), (5, .int (nI kb32)), (4, .int (nI kb15)), (3, .int (nI N)), (0, .ref (ad 0)), (1, .ref a), (2, .int x)]) hx hb dL_act_616 hl (by decide) rfl (fun ls hl => ?_)
          exact cu54 9999 (by omega) (by omega) _ (lv_sub hl [0, 1, 2, 3, 4, 5, 6, 7] rfl)
    intro t ht0 ht1 ls hl
    refine lv_aload_n hx hb dL_act_618 rfl (lv_at hl 6 rfl) ?_
    refine fa_get (D := D) (ci := 4) (v := .ref ho) (C := RX4) (T := TX4) (N := 7) hx hb hts hinX4 hown hK hO rfl 4 (by decide) (hts (.fieldLink RL 61 "CairnShellsLaw$Sim" "hearths" "[[I") (by decide +kernel)) (fun _ h9 => h9) rfl dL_act_619 ?_
    refine lv_iload hx hb dL_act_622 (lv_at hl 3 rfl) ?_
    refine lv_iconst (v := 2) hx hb dL_act_624 (by decide) ?_
    have hro7 := fun g9 => hro.new hC hO hB g9
    have haz9 := AT.lt hO
    have hgr7 := gr9_keep hgr hGs hGl
    refine fa_newI (D := D) (N' := 2) hx hb (hts (.arrayClass .int) (by decide +kernel)) hK hS (by omega) (by show _ ≤ 60; omega) (by show _ ≤ 900; omega) dL_act_625 (fun q1 H58 hq1 eq1 hE9 hS => ?_)
    have hzq1 : S0 ≤ q1 := by rw [eq1]; exact hz
    have hhz9 : ho < q1 := by rw [eq1]; exact AT.lt hB.2.2.2.1
    refine lv_dup hx hb dL_act_627 rfl ?_
    refine lv_iconst (v := 0) hx hb dL_act_628 (by decide) ?_
    refine lv_iload hx hb dL_act_629 (lv_at hl 1 rfl) ?_
    refine fa_iast (D := D) (j := 0) hx hb hK hq1 hS hzq1 (by omega) (by omega) dL_act_631 (fun H59 locs hq1 ho9 hS => ?_)
    have hE9 := ho9.ex hE9 (Nat.le_of_eq eq1.symm)
    refine lv_dup hx hb dL_act_632 rfl ?_
    refine lv_iconst (v := 1) hx hb dL_act_633 (by decide) ?_
    refine lv_iload hx hb dL_act_634 (lv_at hl 0 rfl) ?_
    refine fa_iast (D := D) (j := 1) hx hb hK hq1 hS hzq1 (by omega) (by omega) dL_act_636 (fun H60 locs hq1 ho9 hS => ?_)
    have hE9 := ho9.ex hE9 (Nat.le_of_eq eq1.symm)
    have hq1 : AT D q1 (.inl (cA, 2, .inl (r2M (nI kb570) (nI t)))) H60 := hq1
    have hC : va_P D vwCl (WX cA ad N al be to od ph mn bu fi la tb tf tl) H60 := EX.P hE9 hC
    have hO : SO D H60 a N ab sm fo ho (.ref sa1) (.ref lb1) := EX.at hE9 hO
    have hB : SB D cA H60 ab sm fo ho rfi rhe rab rsm mA ax ay mS sx sy mn fr tt := hB.ex hE9
    have hGs : GZ D H60 sa1 N rsa1 (fun i j => bt (al i) j) := hGs.ex hE9
    have hGl : GZ D H60 lb1 N rla1 (fun i j => bt (be i) j) := hGl.ex hE9
    have hz : S0 ≤ H60.size := Nat.le_trans hz hE9.1
    clear hro hgr
    obtain ⟨ro, hro, hgr, hrq1⟩ : ∃ ro : Nat → Nat, RR ro S0 ad a ab sm fo ho rfi rhe rab rsm mA mS ∧ GR ro sa1 lb1 N rsa1 rla1 ∧ ro q1 = 7 := ⟨_, hro7 (fun _ => 7), hgr7 (fun _ => 7), if_pos (Nat.le_of_eq eq1.symm)⟩
    refine fa_aast (D := D) (j := kb15) hx hb hK hB.2.2.2.1 hq1 hS (hro.S (by rw [hro.2.2.2.2.2.2.1]; decide)) (by omega) (by omega) dL_act_637 (fun H61 locs hh9 ho9 hS => ?_)
    have hk9 := RR.on hro.2.2.2.2.2.2.1 ho9
    have hq1 := ho9.at hq1 (fun e9 => by have h7 := hhz9; omega)
    have hB9 := SB.hea (j := kb15) hro hB ho9 hh9 hq1
    have hC : va_P D vwCl (WX cA ad N al be to od ph mn bu fi la tb tf tl) H61 := cls_kp hro hk9 (by decide) hC
    have hO : SO D H61 a N ab sm fo ho (.ref sa1) (.ref lb1) := KP.at hk9 hO (fun z => absurd (hro.2.2.1.symm.trans z) (by decide))
    have hGs : GZ D H61 sa1 N rsa1 (fun i j => bt (al i) j) := hGs.rr hk9 (by decide) hgr.1 hgr.2.2.1
    have hGl : GZ D H61 lb1 N rla1 (fun i j => bt (be i) j) := hGl.rr hk9 (by decide) hgr.2.1 hgr.2.2.2
    have hz : S0 ≤ H61.size := Nat.le_trans hz hk9.1
    have hB : SB D cA H61 ab sm fo ho rfi (ap1 rhe kb15 q1) rab rsm mA ax ay mS sx sy mn (upd fr kb15 (nI kb570)) (upd tt kb15 (nI t)) := hB9
    have hro : RR ro S0 ad a ab sm fo ho rfi (ap1 rhe kb15 q1) rab rsm mA mS := hro.hea (j := kb15) hrq1
    have hU2 := hU.hearth (f := kb570) (t := t) hkb15 ht0 ht1
    refine lv_aload_n hx hb dL_act_638 rfl (lv_at hl 5 rfl) ?_
    refine lv_iload hx hb dL_act_639 (lv_at hl 3 rfl) ?_
    refine lv_iload hx hb dL_act_641 (lv_at hl 1 rfl) ?_
    refine lv_iload hx hb dL_act_643 (lv_at hl 0 rfl) ?_
    refine WRL_go (va_runV (As := [.int (nI kb15), .int (nI kb570), .int (nI t)]) (rest := []) ⟨hx, hb, hml, hown, hts⟩ (k_hearth l kb15 kb570 t hU.1 hC hD hkb15 ht0 ht1) (cwV 3 hts gL_act_X3_hearth rfl rfl rfl (by decide +kernel) ⟨Nat.le_of_ble_eq_true rfl, Nat.le_of_ble_eq_true rfl⟩) (cP_V hK (va_recv hK.1 (AT.one (hC 0 _ rfl)) (ci := 3) (q0 := 0) rfl rfl)) rfl rfl hl.1 rfl (lv_room (Nat.le_of_ble_eq_true rfl)) dL_act_645 ⟨by show _ ≤ 60; omega, by show _ ≤ 900; omega⟩) hS (hro.clsA hz) (fun H62 locs hC9 hk9 hS => ?_)
    have hk9 := hro.cls hk9
    have hO : SO D H62 a N ab sm fo ho (.ref sa1) (.ref lb1) := KP.at hk9 hO (fun z => absurd (hro.2.2.1.symm.trans z) (by decide))
    have hB : SB D cA H62 ab sm fo ho rfi (ap1 rhe kb15 q1) rab rsm mA ax ay mS sx sy mn (upd fr kb15 (nI kb570)) (upd tt kb15 (nI t)) := SB.kp hro hk9 (by decide) hB
    have hGs : GZ D H62 sa1 N rsa1 (fun i j => bt (al i) j) := hGs.rr hk9 (by decide) hgr.1 hgr.2.2.1
    have hGl : GZ D H62 lb1 N rla1 (fun i j => bt (be i) j) := hGl.rr hk9 (by decide) hgr.2.1 hgr.2.2.2
    have hz : S0 ≤ H62.size := Nat.le_trans hz hk9.1
    have hC : va_P D vwCl (WX cA ad N al be to od ph mn (bu ||| ((1 : Int32) <<< (nI kb15 &&& 31))) (upd fi kb15 (nI kb570)) (upd la kb15 (nI t)) tb tf tl) H62 := hC9
    have hD : va_D (fun _ => True) (WX cA ad N al be to od ph mn (bu ||| ((1 : Int32) <<< (nI kb15 &&& 31))) (upd fi kb15 (nI kb570)) (upd la kb15 (nI t)) tb tf tl) := hD.adr rfl
    refine W.eq (g2 := F0 m 648 ls [.int (fY al be (upd fi kb15 (nI kb570)) kb15)]) rfl ?_
    refine lv_aload_n hx hb dL_act_648 rfl (lv_at hl 6 rfl) ?_
    refine lv_iload hx hb dL_act_649 (lv_at hl 3 rfl) ?_
    refine RO_go (va_runV (As := [.int (nI kb15)]) (rest := [.int (fY al be (upd fi kb15 (nI kb570)) kb15)]) ⟨hx, hb, hml, hown, hts⟩ (c_X4_from l (D := D) (cA := cA) (H0 := H62) (j := kb15) (by omega) (by omega) (hB.sr hO hGs hGl)) (cwV 1 hts gL_act_X4_from rfl rfl rfl (by decide +kernel) ⟨Nat.le_of_ble_eq_true rfl, Nat.le_of_ble_eq_true rfl⟩) (cP_V hK (va_recv hK.1 (AT.one hO) (ci := 4) (q0 := 0) rfl rfl)) rfl rfl hl.1 rfl (lv_room (Nat.le_of_ble_eq_true rfl)) dL_act_651 ⟨by show _ ≤ 60; omega, by show _ ≤ 900; omega⟩) ?_
    refine lv_icmp_ne (tgt := 661) hx hb dL_act_654 (by decide) (fun h9 => absurd (sF_eq hU2.1 hkb15).symm h9) (fun _ => ?_)
    refine lv_iconst (v := 1) hx hb dL_act_657 (by decide) ?_
    refine lv_goto (tgt := 662) hx hb dL_act_658 (by decide) ?_
    exact LQ_zret hx hb hr hlk dL_act_662 (by omega) (by omega) ⟨rfl, N, hN0, LV.mk (hU2.up (by omega)) hC hD hO hB hro⟩ hS (by decide)
  rcases (show kb56 = 0 ∨ kb56 = 1 ∨ kb56 = 2 ∨ kb56 = 3 ∨ kb56 = 4 ∨ kb56 = 5 ∨ kb56 = 6 ∨ kb56 = 7 ∨ kb56 = 8 ∨ kb56 = 9 ∨ kb56 = 10 ∨ kb56 = 11 ∨ kb56 = 12 ∨ kb56 = 13 ∨ kb56 = 14 ∨ kb56 = 15 by omega) with rfl | rfl | rfl | rfl | rfl | rfl | rfl | rfl | rfl | rfl | rfl | rfl | rfl | rfl | rfl | rfl
  · exact lv_tableIn (tgt := 116) hx hb dL_act_59 (by decide) (by decide) rfl (by decide) t116
  · exact lv_tableIn (tgt := 148) hx hb dL_act_59 (by decide) (by decide) rfl (by decide) t148
  · exact lv_tableIn (tgt := 148) hx hb dL_act_59 (by decide) (by decide) rfl (by decide) t148
  · exact lv_tableIn (tgt := 289) hx hb dL_act_59 (by decide) (by decide) rfl (by decide) t289
  · exact lv_tableIn (tgt := 289) hx hb dL_act_59 (by decide) (by decide) rfl (by decide) t289
  · exact lv_tableIn (tgt := 289) hx hb dL_act_59 (by decide) (by decide) rfl (by decide) t289
  · exact lv_tableIn (tgt := 289) hx hb dL_act_59 (by decide) (by decide) rfl (by decide) t289
  · exact lv_tableIn (tgt := 420) hx hb dL_act_59 (by decide) (by decide) rfl (by decide) t420
  · exact lv_tableIn (tgt := 420) hx hb dL_act_59 (by decide) (by decide) rfl (by decide) t420
  · exact lv_tableIn (tgt := 420) hx hb dL_act_59 (by decide) (by decide) rfl (by decide) t420
  · exact lv_tableIn (tgt := 504) hx hb dL_act_59 (by decide) (by decide) rfl (by decide) t504
  · exact lv_tableOut (tgt := 564) hx hb dL_act_59 (by decide) (by decide) t564
  · exact lv_tableOut (tgt := 564) hx hb dL_act_59 (by decide) (by decide) t564
  · exact lv_tableOut (tgt := 564) hx hb dL_act_59 (by decide) (by decide) t564
  · exact lv_tableOut (tgt := 564) hx hb dL_act_59 (by decide) (by decide) t564
  · exact lv_tableOut (tgt := 564) hx hb dL_act_59 (by decide) (by decide) t564
