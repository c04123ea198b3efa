set_option maxHeartbeats 4000000 in
set_option maxRecDepth 100000 in
theorem c_X4_isSame (l : Launch) {D : va_G} {cA : ClassId} {H0 : Heap} {S0 a B : Nat} {ad : Nat → Nat} (hX : LX D cA S0 ad a B H0) (hBn : B ≤ 190) : LQ l yX4_isSame wsX4_isSame 7 153 280 3500 [.ref a, .ref (ad 0)] D cA H0 (fun q => S0 ≤ q) (fun v H1 => v = some (.int 1) ∧ LX D cA S0 ad a B H1) := by
  refine LQ_of (cc := cX4_isSame) (maxL := 17) (ret := (some .boolean)) (by decide) rfl (Nat.le_of_ble_eq_true rfl) ?_
  intro p e s m below meth c ls hx hb hml hr hown hts hlk hH hK hl
  have hown : s.vm.findClass RX4 = some m.cls := hown
  have hl : lv_has ls 17 [(0, .ref a), (1, .ref (ad 0))] := hl
  have hinX0 : ∀ w ∈ wsX00, w ∈ wsX4_isSame := fun w h9 => List.mem_cons_of_mem _ (List.mem_append_left _ (List.mem_append_left _ (List.mem_append_right _ h9)))
  have hinX1 : ∀ w ∈ wsX10, w ∈ wsX4_isSame := fun w h9 => List.mem_cons_of_mem _ (List.mem_append_left _ (List.mem_append_right _ h9))
  have hinX2 : ∀ w ∈ wsX20, w ∈ wsX4_isSame := fun w h9 => List.mem_cons_of_mem _ (List.mem_append_left _ (List.mem_append_left _ (List.mem_append_left _ (List.mem_append_right _ h9))))
  have hinX3 : ∀ w ∈ wsX30, w ∈ wsX4_isSame := fun w h9 => List.mem_cons_of_mem _ (List.mem_append_left _ (List.mem_append_left _ (List.mem_append_left _ (List.mem_append_left _ (List.mem_append_right _ h9)))))
  have hinX4 : ∀ w ∈ wsX40, w ∈ wsX4_isSame := fun w h9 => List.mem_cons_of_mem _ (List.mem_append_left _ (List.mem_append_left _ (List.mem_append_left _ (List.mem_append_left _ (List.mem_append_left _ (List.mem_append_right _ h9))))))
  have hS : va_S (fun q => S0 ≤ q) H0 H0 [] := va_S.rf
  have hE : EX H0 H0 := KP.rf
  have hP : va_P D vwCl [] H0 := fun k q h => by simp at h
  have hD : va_D (fun q => S0 ≤ q) [] := ⟨fun i j p q h => by simp at h, fun k q h => by simp at h⟩
  obtain ⟨N, hN0, al, be, to, od, ph, mn, bu, fi, la, tb, tf, tl, fr, tt, mA, ax, ay, mS, sx, sy, ab, sm, fo, ho, rfi, rhe, rab, rsm, v5, v6, ro, hU, hC, hD, hO, hB, hro⟩ := hX
  have hN12 := hU.2.1
  have hmm := hU.2.2.2.2.2
  have hmS : mS ≤ 200 := by omega
  have hmA : mA ≤ 200 := by omega
  have hz : S0 ≤ H0.size := by have h1 := hro.S (q := a) (by rw [hro.2.2.1]; decide); have h2 := AT.lt hO; omega
  refine lv_aload_n hx hb dX4_isSame_0 rfl (lv_at hl 0 rfl) ?_
  refine LQ_go (va_runV (As := []) (rest := []) ⟨hx, hb, hml, hown, hts⟩ (c_X4_reckon l (D := D) (cA := cA) (H0 := H0) (a := a) hU.2.1 hN0 hU.1.R hU.2.2.1 hU.2.2.2.1 hmS hmA hO hB.1 hB.2.1 (rne hro hro.2.2.2.1 (by decide)) (rne hro hro.2.2.2.2.1 (by decide)) (fun i hi => rne hro (hro.2.2.2.2.2.2.2.2.2.1 i hi) (by decide)) (fun i hi => rne hro (hro.2.2.2.2.2.2.2.2.2.2.1 i hi) (by decide))) (cwV 0 hts gX4_isSame_X4_reckon rfl rfl rfl (by decide +kernel) ⟨Nat.le_of_ble_eq_true rfl, Nat.le_of_ble_eq_true rfl⟩) (cP_V hK (va_recv hK.1 (AT.one hO) (ci := 4) (q0 := 0) rfl rfl)) rfl rfl hl.1 rfl (lv_room (Nat.le_of_ble_eq_true rfl)) dX4_isSame_1 ⟨by show _ ≤ 280; omega, by show _ ≤ 3500; omega⟩) hS (fun q h => Or.elim h (fun e9 => by rw [e9]; exact hro.S (by rw [hro.2.2.1]; decide)) (fun z => Nat.le_trans hz z)) (fun v9 H1 locs hp9 hk9 hS => ?_)
  obtain ⟨rfl, sa1, lb1, rsa1, rla1, hO9, hGs, hGl, hz1, hz2, hz3, hz4⟩ := hp9
  have hro9 := hro.new hC hO hB (fun _ => 9)
  have hk8 := hro.a1 (K := fun _ _ => True) hk9
  have hC : va_P D vwCl (WX cA ad N al be to od ph mn bu fi la tb tf tl) H1 := cls_kp hro hk8 (by decide) hC
  have hB : SB D cA H1 ab sm fo ho rfi rhe rab rsm mA ax ay mS sx sy mn fr tt := SB.kp hro hk8 (by decide) hB
  have hO : SO D H1 a N ab sm fo ho (.ref sa1) (.ref lb1) := hO9
  have hGs : GZ D H1 sa1 N rsa1 (fun i j => bt (al i) j) := hGs
  have hGl : GZ D H1 lb1 N rla1 (fun i j => bt (be i) j) := hGl
  have hz := Nat.le_trans hz hk9.1
  clear hro
  obtain ⟨ro, hro, hgr⟩ : ∃ ro : Nat → Nat, RR ro S0 ad a ab sm fo ho rfi rhe rab rsm mA mS ∧ GR ro sa1 lb1 N rsa1 rla1 := ⟨_, hro9, gr9_new hz1 hz2 hz3 hz4⟩
  refine W.eq (g2 := F0 m 4 ls [.ref a]) rfl ?_
  have hN : N ≤ 14 := by omega
  have hI9 := hU.1
  have hI := hI9.R
  have hp := hI9.P
  have hDc := hD
  have hR := hB.sr hO hGs hGl
  have hE : EX H1 H1 := KP.rf
  have hP : va_P D vwCl [] H1 := fun k q h => by simp at h
  have hD : va_D (fun q => S0 ≤ q) [] := ⟨fun i j p q h => by simp at h, fun k q h => by simp at h⟩
  have hAz : ∀ (H : Heap) {q : Nat}, EX H1 H → q = H.size → S0 ≤ q := fun H q a b => by rw [b]; exact Nat.le_trans hz a.1
  refine lv_pop hx hb dX4_isSame_4 rfl ?_
  refine lv_iconst (v := 0) hx hb dX4_isSame_5 (by decide) ?_
  refine lv_istore_n (lv' := [(2, .int 0), (0, .ref a), (1, .ref (ad 0))]) hx hb dX4_isSame_6 rfl hl (by decide) rfl (fun ls hl => ?_)
  refine lv_iconst (v := 0) hx hb dX4_isSame_7 (by decide) ?_
  refine lv_istore_n (lv' := [(3, .int 0), (2, .int 0), (0, .ref a), (1, .ref (ad 0))]) hx hb dX4_isSame_8 rfl hl (by decide) rfl (fun ls hl => ?_)
  refine lv_iconst (v := 0) hx hb dX4_isSame_9 (by decide) ?_
  refine lv_istore (lv' := [(4, .int 0), (3, .int 0), (2, .int 0), (0, .ref a), (1, .ref (ad 0))]) hx hb dX4_isSame_10 hl (by decide) rfl (fun ls hl => ?_)
  refine lv_iconst (v := 0) hx hb dX4_isSame_12 (by decide) ?_
  refine lv_istore (lv' := [(5, .int 0), (4, .int 0), (3, .int 0), (2, .int 0), (0, .ref a), (1, .ref (ad 0))]) hx hb dX4_isSame_13 hl (by decide) rfl (fun ls hl => ?_)
  refine lv_iconst (v := 0) hx hb dX4_isSame_15 (by decide) ?_
  refine lv_istore (lv' := [(6, .int 0), (5, .int 0), (4, .int 0), (3, .int 0), (2, .int 0), (0, .ref a), (1, .ref (ad 0))]) hx hb dX4_isSame_16 hl (by decide) rfl (fun ls hl => ?_)
  refine lv_aload_n hx hb dX4_isSame_18 rfl (lv_at hl 5 rfl) ?_
  refine fa_get (D := D) (ci := 4) (v := .int (nI N)) (C := RX4) (T := TX4) (N := 7) hx hb hts hinX4 hown hK hR.1 rfl 0 (by decide) (hts (.fieldLink RX4 25 "CairnShellsLaw$Sim" "n" "I") (by decide +kernel)) (fun _ h9 => h9) rfl dX4_isSame_19 ?_
  refine fa_newZ (D := D) (N' := N) hx hb (hts (.arrayClass .boolean) (by decide +kernel)) hK hS (by omega) (by show _ ≤ 280; omega) (by show _ ≤ 3500; omega) dX4_isSame_22 (fun q2 H3 hq9 hq4 hE9 hS => ?_)
  obtain ⟨hP, hD⟩ := li_push hP hD hq9 hq4 hE9 (hAz H1 hE hq4)
  have hP : va_P D vwCl [(q2, .inl (D.1 10, N, .inl (fun _ => 0)))] H3 := hP
  have hD : va_D (fun q => S0 ≤ q) [(q2, .inl (D.1 10, N, .inl (fun _ => 0)))] := hD
  have hfq2 : H1.size ≤ q2 := by rw [hq4]; exact hE.1
  have hE := KP.trans hE hE9
  refine lv_astore (lv' := [(7, .ref q2), (6, .int 0), (5, .int 0), (4, .int 0), (3, .int 0), (2, .int 0), (0, .ref a), (1, .ref (ad 0))]) hx hb dX4_isSame_24 hl (by decide) rfl (fun ls hl => ?_)
  refine lv_iconst (v := 0) hx hb dX4_isSame_26 (by decide) ?_
  refine lv_istore (lv' := [(8, .int 0), (7, .ref q2), (6, .int 0), (5, .int 0), (4, .int 0), (3, .int 0), (2, .int 0), (0, .ref a), (1, .ref (ad 0))]) hx hb dX4_isSame_27 hl (by decide) rfl (fun ls hl => ?_)
  have ew5 : ((fun _ => 0) : Nat → Int32) = (fun i9 => bI (dnB N be 0 i9)) := dn_0w
  have hD : va_D (fun q => S0 ≤ q) [(q2, .inl (D.1 10, N, .inl (fun i9 => bI (dnB N be 0 i9))))] := by rw [← ew5]; exact hD.sub [0] (by decide) rfl
  have hP : va_P D vwCl [(q2, .inl (D.1 10, N, .inl (fun i9 => bI (dnB N be 0 i9))))] H3 := by rw [← ew5]; exact hP.sub [0] rfl
  suffices lp29 : ∀ (n pz : Nat), pz ≤ N → N < pz + n → ∀ (H6 : Heap) (locs : List Loc), va_P D vwCl [(q2, .inl (D.1 10, N, .inl (fun i9 => bI (dnB N be pz i9))))] H6 → va_D (fun q => S0 ≤ q) [(q2, .inl (D.1 10, N, .inl (fun i9 => bI (dnB N be pz i9))))] → va_S (fun q => S0 ≤ q) H0 H6 locs → EX H1 H6 → ∀ ls, lv_has ls 17 [(8, .int (nI pz)), (7, .ref q2), (6, .int 0), (5, .int 0), (4, .int 0), (3, .int 0), (2, .int 0), (0, .ref a), (1, .ref (ad 0))] → W p l e { frames := 7, cells := 280, slots := 3500, locals := 153 } s m ([.ref a, .ref (ad 0)] : List Value).toArray below meth c H6 locs (0 + 26 + 1) (0 + 312 + N) (MQ below (lqQ (fun v H1 => v = some (.int 1) ∧ LX D cA S0 ad a B H1) (fun q => S0 ≤ q) H0) ([.ref a, .ref (ad 0)] : List Value).toArray s 280 3500 (fun q => S0 ≤ q)) (F0 m 29 ls []) from lp29 (N + 1) 0  (by omega) (by omega)  _ _ hP hD hS hE  _ (lv_sub hl [0, 1, 2, 3, 4, 5, 6, 7, 8] rfl)
  intro n
  induction n with
  | zero => intro pz  hk1 hk2; exact absurd hk2 (by omega)
  | succ n ih29 =>
    intro pz  hk29 hn29   H6 locs hP hD hS hE  ls hl
    refine lv_iload hx hb dX4_isSame_29 (lv_at hl 0 rfl) ?_
    refine lv_aload_n hx hb dX4_isSame_31 rfl (lv_at hl 7 rfl) ?_
    refine fa_get (D := D) (ci := 4) (v := .int (nI N)) (C := RX4) (T := TX4) (N := 7) hx hb hts hinX4 hown hK (EX.at hE hR.1) rfl 0 (by decide) (hts (.fieldLink RX4 25 "CairnShellsLaw$Sim" "n" "I") (by decide +kernel)) (fun _ h9 => h9) rfl dX4_isSame_32 ?_
    refine my_geN (x := pz) (y := N) (tgt := 160) hx hb dX4_isSame_35 (by decide) (by omega) (by omega) (fun h7 => ?_) (fun h7 => ?_)
    · obtain rfl : N = pz := by omega
      refine lv_iconst (v := 0) hx hb dX4_isSame_160 (by decide) ?_
      refine lv_istore (lv' := [(8, .int 0), (7, .ref q2), (6, .int 0), (5, .int 0), (4, .int 0), (3, .int 0), (2, .int 0), (0, .ref a), (1, .ref (ad 0))]) hx hb dX4_isSame_161 hl (by decide) rfl (fun ls hl => ?_)
      have hD : va_D (fun q => S0 ≤ q) [] := by exact hD.sub [] (by decide) rfl
      have hP : va_P D vwCl [] H6 := by exact hP.sub [] rfl
      suffices lp163 : ∀ (n l9 : Nat) (ye : Int32) (yd : Int32) (yc : Int32) (yb : Int32) (ya : Int32), l9 ≤ N → N < l9 + n → ye = sI mn (4 * l9) → yd = nI (srt al l9) → yc = nI (ct (dtd fr) l9) → yb = sI ph l9 → ya = phs ph l9 → ∀ (H8 : Heap) (locs : List Loc), va_P D vwCl [] H8 → va_D (fun q => S0 ≤ q) [] → va_S (fun q => S0 ≤ q) H0 H8 locs → EX H1 H8 → ∀ ls, lv_has ls 17 [(8, .int (nI l9)), (6, .int ye), (5, .int yd), (4, .int yc), (3, .int yb), (2, .int ya), (0, .ref a), (1, .ref (ad 0))] → W p l e { frames := 7, cells := 280, slots := 3500, locals := 153 } s m ([.ref a, .ref (ad 0)] : List Value).toArray below meth c H8 locs ((0 + 26 + 1) + l9 * 20) ((0 + 312 + N) + l9 * 257) (MQ below (lqQ (fun v H1 => v = some (.int 1) ∧ LX D cA S0 ad a B H1) (fun q => S0 ≤ q) H0) ([.ref a, .ref (ad 0)] : List Value).toArray s 280 3500 (fun q => S0 ≤ q)) (F0 m 163 ls []) from W.widen (by omega) (by omega) (lp163 (N + 1) 0 0 0 0 0 0 (by omega) (by omega) (by first | rfl | (simp []; done) | decide) (by first | rfl | (simp []; done) | decide) (by first | rfl | (simp []; done) | decide) (by first | rfl | (simp []; done) | decide) (by first | rfl | (simp []; done) | decide) _ _ hP hD hS hE  _ (lv_sub hl [0, 2, 3, 4, 5, 6, 7, 8] rfl))
      intro n
      induction n with
      | zero => intro l9 ye yd yc yb ya hk1 hk2; exact absurd hk2 (by omega)
      | succ n ih163 =>
        intro l9 ye yd yc yb ya hk163 hn163 eye eyd eyc eyb eya  H8 locs hP hD hS hE  ls hl
        subst eye
        subst eyd
        subst eyc
        subst eyb
        subst eya
        refine lv_iload hx hb dX4_isSame_163 (lv_at hl 0 rfl) ?_
        refine lv_aload_n hx hb dX4_isSame_165 rfl (lv_at hl 6 rfl) ?_
        refine fa_get (D := D) (ci := 4) (v := .int (nI N)) (C := RX4) (T := TX4) (N := 7) hx hb hts hinX4 hown hK (EX.at hE hR.1) rfl 0 (by decide) (hts (.fieldLink RX4 25 "CairnShellsLaw$Sim" "n" "I") (by decide +kernel)) (fun _ h9 => h9) rfl dX4_isSame_166 ?_
        refine my_geN (x := l9) (y := N) (tgt := 741) hx hb dX4_isSame_169 (by decide) (by omega) (by omega) (fun h9 => ?_) (fun h9 => ?_)
        · obtain rfl : N = l9 := by omega
          refine lv_bipush (v := 7) hx hb dX4_isSame_741 (by decide) ?_
          refine fa_newI (D := D) (N' := 7) hx hb (hts (.arrayClass .int) (by decide +kernel)) hK hS (by omega) (by show _ ≤ 280; omega) (by show _ ≤ 3500; omega) dX4_isSame_743 (fun q10 H11 hq9 hq12 hE9 hS => ?_)
          obtain ⟨hP, hD⟩ := li_push hP hD hq9 hq12 hE9 (hAz H8 hE hq12)
          have hP : va_P D vwCl [(q10, .inl (cA, 7, .inl (fun _ => 0)))] H11 := hP
          have hD : va_D (fun q => S0 ≤ q) [(q10, .inl (cA, 7, .inl (fun _ => 0)))] := hD
          have hfq10 : H1.size ≤ q10 := by rw [hq12]; exact hE.1
          have hE := KP.trans hE hE9
          refine lv_dup hx hb dX4_isSame_745 rfl ?_
          refine lv_iconst (v := 0) hx hb dX4_isSame_746 (by decide) ?_
          refine lv_aload_n hx hb dX4_isSame_747 rfl (lv_at hl 6 rfl) ?_
          refine fa_get (D := D) (ci := 4) (v := .int (nI N)) (C := RX4) (T := TX4) (N := 7) hx hb hts hinX4 hown hK (EX.at hE hR.1) rfl 0 (by decide) (hts (.fieldLink RX4 25 "CairnShellsLaw$Sim" "n" "I") (by decide +kernel)) (fun _ h9 => h9) rfl dX4_isSame_748 ?_
          refine li_iast (D := D) (j := 0) hx hb hK hP hD hS 0 rfl (by omega) (by omega) dX4_isSame_751 (fun H13 locs hP hD hS ho9 => ?_)
          have hP : va_P D vwCl [(q10, .inl (cA, 7, .inl (upd (fun _ => 0) 0 (nI N))))] H13 := hP
          have hD : va_D (fun q => S0 ≤ q) [(q10, .inl (cA, 7, .inl (upd (fun _ => 0) 0 (nI N))))] := hD
          have hE := ho9.ex hE hfq10
          refine lv_dup hx hb dX4_isSame_752 rfl ?_
          refine lv_iconst (v := 1) hx hb dX4_isSame_753 (by decide) ?_
          refine lv_iload_n hx hb dX4_isSame_754 rfl (lv_at hl 5 rfl) ?_
          refine li_iast (D := D) (j := 1) hx hb hK hP hD hS 0 rfl (by omega) (by omega) dX4_isSame_755 (fun H14 locs hP hD hS ho9 => ?_)
          have hP : va_P D vwCl [(q10, .inl (cA, 7, .inl (upd (upd (fun _ => 0) 0 (nI N)) 1 (phs ph N))))] H14 := hP
          have hD : va_D (fun q => S0 ≤ q) [(q10, .inl (cA, 7, .inl (upd (upd (fun _ => 0) 0 (nI N)) 1 (phs ph N))))] := hD
          have hE := ho9.ex hE hfq10
          refine lv_dup hx hb dX4_isSame_756 rfl ?_
          refine lv_iconst (v := 2) hx hb dX4_isSame_757 (by decide) ?_
          refine lv_aload_n hx hb dX4_isSame_758 rfl (lv_at hl 6 rfl) ?_
          refine RO_go (va_runV (As := []) (rest := [.int 2, .ref q10, .ref q10]) ⟨hx, hb, hml, hown, hts⟩ (c_X4_doubtful l (D := D) (cA := cA) (H0 := H14) hN (hR.ex hE)) (cwV 0 hts gX4_isSame_X4_doubtful rfl rfl rfl (by decide +kernel) ⟨Nat.le_of_ble_eq_true rfl, Nat.le_of_ble_eq_true rfl⟩) (cP_V hK (va_recv hK.1 (AT.one (EX.at hE hR.1)) (ci := 4) (q0 := 0) rfl rfl)) rfl rfl hl.1 rfl (lv_room (Nat.le_of_ble_eq_true rfl)) dX4_isSame_759 ⟨by show _ ≤ 280; omega, by show _ ≤ 3500; omega⟩) ?_
          refine li_iast (D := D) (j := 2) hx hb hK hP hD hS 0 rfl (by omega) (by omega) dX4_isSame_762 (fun H15 locs hP hD hS ho9 => ?_)
          have hP : va_P D vwCl [(q10, .inl (cA, 7, .inl (upd (upd (upd (fun _ => 0) 0 (nI N)) 1 (phs ph N)) 2 (nI (ct (sD N al be fr tt) N)))))] H15 := hP
          have hD : va_D (fun q => S0 ≤ q) [(q10, .inl (cA, 7, .inl (upd (upd (upd (fun _ => 0) 0 (nI N)) 1 (phs ph N)) 2 (nI (ct (sD N al be fr tt) N)))))] := hD
          have hE := ho9.ex hE hfq10
          refine lv_dup hx hb dX4_isSame_763 rfl ?_
          refine lv_iconst (v := 3) hx hb dX4_isSame_764 (by decide) ?_
          refine lv_iload hx hb dX4_isSame_765 (lv_at hl 3 rfl) ?_
          refine li_iast (D := D) (j := 3) hx hb hK hP hD hS 0 rfl (by omega) (by omega) dX4_isSame_767 (fun H16 locs hP hD hS ho9 => ?_)
          have hP : va_P D vwCl [(q10, .inl (cA, 7, .inl (upd (upd (upd (upd (fun _ => 0) 0 (nI N)) 1 (phs ph N)) 2 (nI (ct (sD N al be fr tt) N))) 3 (nI (ct (dtd fr) N)))))] H16 := hP
          have hD : va_D (fun q => S0 ≤ q) [(q10, .inl (cA, 7, .inl (upd (upd (upd (upd (fun _ => 0) 0 (nI N)) 1 (phs ph N)) 2 (nI (ct (sD N al be fr tt) N))) 3 (nI (ct (dtd fr) N)))))] := hD
          have hE := ho9.ex hE hfq10
          refine lv_dup hx hb dX4_isSame_768 rfl ?_
          refine lv_iconst (v := 4) hx hb dX4_isSame_769 (by decide) ?_
          refine lv_aload_n hx hb dX4_isSame_770 rfl (lv_at hl 6 rfl) ?_
          refine RO_go (va_runV (As := []) (rest := [.int 4, .ref q10, .ref q10]) ⟨hx, hb, hml, hown, hts⟩ (c_X4_pairs l (D := D) (cA := cA) (H0 := H16) hN (hR.ex hE)) (cwV 0 hts gX4_isSame_X4_pairs rfl rfl rfl (by decide +kernel) ⟨Nat.le_of_ble_eq_true rfl, Nat.le_of_ble_eq_true rfl⟩) (cP_V hK (va_recv hK.1 (AT.one (EX.at hE hR.1)) (ci := 4) (q0 := 0) rfl rfl)) rfl rfl hl.1 rfl (lv_room (Nat.le_of_ble_eq_true rfl)) dX4_isSame_771 ⟨by show _ ≤ 280; omega, by show _ ≤ 3500; omega⟩) ?_
          refine li_iast (D := D) (j := 4) hx hb hK hP hD hS 0 rfl (by omega) (by omega) dX4_isSame_774 (fun H17 locs hP hD hS ho9 => ?_)
          have hP : va_P D vwCl [(q10, .inl (cA, 7, .inl (upd (upd (upd (upd (upd (fun _ => 0) 0 (nI N)) 1 (phs ph N)) 2 (nI (ct (sD N al be fr tt) N))) 3 (nI (ct (dtd fr) N))) 4 (nI (pB be N N)))))] H17 := hP
          have hD : va_D (fun q => S0 ≤ q) [(q10, .inl (cA, 7, .inl (upd (upd (upd (upd (upd (fun _ => 0) 0 (nI N)) 1 (phs ph N)) 2 (nI (ct (sD N al be fr tt) N))) 3 (nI (ct (dtd fr) N))) 4 (nI (pB be N N)))))] := hD
          have hE := ho9.ex hE hfq10
          refine lv_dup hx hb dX4_isSame_775 rfl ?_
          refine lv_iconst (v := 5) hx hb dX4_isSame_776 (by decide) ?_
          refine lv_iload hx hb dX4_isSame_777 (lv_at hl 2 rfl) ?_
          refine li_iast (D := D) (j := 5) hx hb hK hP hD hS 0 rfl (by omega) (by omega) dX4_isSame_779 (fun H18 locs hP hD hS ho9 => ?_)
          have hP : va_P D vwCl [(q10, .inl (cA, 7, .inl (upd (upd (upd (upd (upd (upd (fun _ => 0) 0 (nI N)) 1 (phs ph N)) 2 (nI (ct (sD N al be fr tt) N))) 3 (nI (ct (dtd fr) N))) 4 (nI (pB be N N))) 5 (nI (srt al N)))))] H18 := hP
          have hD : va_D (fun q => S0 ≤ q) [(q10, .inl (cA, 7, .inl (upd (upd (upd (upd (upd (upd (fun _ => 0) 0 (nI N)) 1 (phs ph N)) 2 (nI (ct (sD N al be fr tt) N))) 3 (nI (ct (dtd fr) N))) 4 (nI (pB be N N))) 5 (nI (srt al N)))))] := hD
          have hE := ho9.ex hE hfq10
          refine lv_dup hx hb dX4_isSame_780 rfl ?_
          refine lv_bipush (v := 6) hx hb dX4_isSame_781 (by decide) ?_
          refine lv_iload hx hb dX4_isSame_783 (lv_at hl 1 rfl) ?_
          refine li_iast (D := D) (j := 6) hx hb hK hP hD hS 0 rfl (by omega) (by omega) dX4_isSame_785 (fun H19 locs hP hD hS ho9 => ?_)
          have hP : va_P D vwCl [(q10, .inl (cA, 7, .inl (upd (upd (upd (upd (upd (upd (upd (fun _ => 0) 0 (nI N)) 1 (phs ph N)) 2 (nI (ct (sD N al be fr tt) N))) 3 (nI (ct (dtd fr) N))) 4 (nI (pB be N N))) 5 (nI (srt al N))) 6 (sI mn (4 * N)))))] H19 := hP
          have hD : va_D (fun q => S0 ≤ q) [(q10, .inl (cA, 7, .inl (upd (upd (upd (upd (upd (upd (upd (fun _ => 0) 0 (nI N)) 1 (phs ph N)) 2 (nI (ct (sD N al be fr tt) N))) 3 (nI (ct (dtd fr) N))) 4 (nI (pB be N N))) 5 (nI (srt al N))) 6 (sI mn (4 * N)))))] := hD
          have hE := ho9.ex hE hfq10
          refine lv_astore (lv' := [(8, .ref q10), (6, .int (sI mn (4 * N))), (5, .int (nI (srt al N))), (4, .int (nI (ct (dtd fr) N))), (3, .int (sI ph N)), (2, .int (phs ph N)), (0, .ref a), (1, .ref (ad 0))]) hx hb dX4_isSame_786 hl (by decide) rfl (fun ls hl => ?_)
          have hcou : ∀ x, x < 7 → couV N al be to ph mn bu fi la x = (upd (upd (upd (upd (upd (upd (upd (fun _ => 0) 0 (nI N)) 1 (phs ph N)) 2 (nI (ct (sD N al be fr tt) N))) 3 (nI (ct (dtd fr) N))) 4 (nI (pB be N N))) 5 (nI (srt al N))) 6 (sI mn (4 * N))) x := cou_all hI9 rfl rfl rfl rfl rfl rfl rfl
          obtain ⟨w7, h9w7⟩ : ∃ w : Nat → Int32, w = upd (upd (upd (upd (upd (upd (upd (fun _ => 0) 0 (nI N)) 1 (phs ph N)) 2 (nI (ct (sD N al be fr tt) N))) 3 (nI (ct (dtd fr) N))) 4 (nI (pB be N N))) 5 (nI (srt al N))) 6 (sI mn (4 * N)) := ⟨_, rfl⟩
          rw [← h9w7] at hcou hP hD
          have hP : va_P D vwCl [(q10, .inl (cA, 7, .inl w7))] H19 := hP
          have hD : va_D (fun q => S0 ≤ q) [(q10, .inl (cA, 7, .inl w7))] := hD
          refine lv_iconst (v := 0) hx hb dX4_isSame_788 (by decide) ?_
          refine lv_istore (lv' := [(9, .int 0), (8, .ref q10), (6, .int (sI mn (4 * N))), (5, .int (nI (srt al N))), (4, .int (nI (ct (dtd fr) N))), (3, .int (sI ph N)), (2, .int (phs ph N)), (0, .ref a), (1, .ref (ad 0))]) hx hb dX4_isSame_789 hl (by decide) rfl (fun ls hl => ?_)
          suffices lp791 : ∀ (n c9 : Nat), c9 ≤ 7 → 7 < c9 + n → ∀ ls, lv_has ls 17 [(9, .int (nI c9)), (8, .ref q10), (6, .int (sI mn (4 * N))), (5, .int (nI (srt al N))), (4, .int (nI (ct (dtd fr) N))), (3, .int (sI ph N)), (2, .int (phs ph N)), (0, .ref a), (1, .ref (ad 0))] → W p l e { frames := 7, cells := 280, slots := 3500, locals := 153 } s m ([.ref a, .ref (ad 0)] : List Value).toArray below meth c H19 locs ((0 + 26 + 1) + N * 20 + 1) ((0 + 312 + N) + N * 257 + 7) (MQ below (lqQ (fun v H1 => v = some (.int 1) ∧ LX D cA S0 ad a B H1) (fun q => S0 ≤ q) H0) ([.ref a, .ref (ad 0)] : List Value).toArray s 280 3500 (fun q => S0 ≤ q)) (F0 m 791 ls []) from lp791 (7 + 1) 0  (by omega) (by omega)   _ (lv_sub hl [0, 1, 2, 3, 4, 5, 6, 7, 8] rfl)
          intro n
          induction n with
          | zero => intro c9  hk1 hk2; exact absurd hk2 (by omega)
          | succ n ih791 =>
            intro c9  hk791 hn791   ls hl
            refine lv_iload hx hb dX4_isSame_791 (lv_at hl 0 rfl) ?_
            refine lv_bipush (v := 7) hx hb dX4_isSame_793 (by decide) ?_
            refine my_geN (x := c9) (y := 7) (tgt := 820) hx hb dX4_isSame_795 (by decide) (by omega) (by omega) (fun h21 => ?_) (fun h21 => ?_)
            · obtain rfl : c9 = 7 := by omega
              refine lv_aload_n hx hb dX4_isSame_820 rfl (lv_at hl 8 rfl) ?_
              refine RO_go (va_runV (As := []) (rest := []) ⟨hx, hb, hml, hown, hts⟩ (k_mean l  hI9 (EX.P hE hC) ) (cwV 0 hts gX4_isSame_X3_mean rfl rfl rfl (by decide +kernel) ⟨Nat.le_of_ble_eq_true rfl, Nat.le_of_ble_eq_true rfl⟩) (cP_V hK (va_recv hK.1 (AT.one (EX.at hE (hC 0 _ rfl))) (ci := 3) (q0 := 0) rfl rfl)) rfl rfl hl.1 rfl (lv_room (Nat.le_of_ble_eq_true rfl)) dX4_isSame_821 ⟨by show _ ≤ 280; omega, by show _ ≤ 3500; omega⟩) ?_
              refine lv_aload_n hx hb dX4_isSame_824 rfl (lv_at hl 7 rfl) ?_
              refine fa_get (D := D) (ci := 4) (v := .int (nI N)) (C := RX4) (T := TX4) (N := 7) hx hb hts hinX4 hown hK (EX.at hE hR.1) rfl 0 (by decide) (hts (.fieldLink RX4 25 "CairnShellsLaw$Sim" "n" "I") (by decide +kernel)) (fun _ h9 => h9) rfl dX4_isSame_825 ?_
              refine lv_if_ne (tgt := 835) hx hb dX4_isSame_828 (by decide) (fun _ => ?_) (fun h9 => absurd h9 (nI_ne0 hN0 (by omega)))
              refine lv_iload_n hx hb dX4_isSame_835 rfl (lv_at hl 5 rfl) ?_
              refine lv_i2d hx hb dX4_isSame_836 ?_
              refine lv_aload_n hx hb dX4_isSame_837 rfl (lv_at hl 7 rfl) ?_
              refine fa_get (D := D) (ci := 4) (v := .int (nI N)) (C := RX4) (T := TX4) (N := 7) hx hb hts hinX4 hown hK (EX.at hE hR.1) rfl 0 (by decide) (hts (.fieldLink RX4 25 "CairnShellsLaw$Sim" "n" "I") (by decide +kernel)) (fun _ h9 => h9) rfl dX4_isSame_838 ?_
              refine lv_i2d hx hb dX4_isSame_841 ?_
              refine lv_ddiv hx hb dX4_isSame_842 (mean_nan hN0 hN) ?_
              refine lv_dcmp hx hb dX4_isSame_843 ?_
              refine lv_if_ne (tgt := 851) hx hb dX4_isSame_844 (by decide) (fun h9 => absurd (mean_cmp hN0 hN) h9) (fun _ => ?_)
              refine lv_iconst (v := 1) hx hb dX4_isSame_847 (by decide) ?_
              refine lv_goto (tgt := 852) hx hb dX4_isSame_848 (by decide) ?_
              exact LQ_zret hx hb hr hlk dX4_isSame_852 (by omega) (by omega) ⟨rfl, N, hN0, LV.mk hU (EX.P hE hC) hDc (EX.at hE hO) (hB.ex hE) hro⟩ hS (by decide)
            · refine lv_aload_n hx hb dX4_isSame_798 rfl (lv_at hl 8 rfl) ?_
              refine lv_iload hx hb dX4_isSame_799 (lv_at hl 0 rfl) ?_
              refine RO_go (va_runV (As := [.int (nI c9)]) (rest := []) ⟨hx, hb, hml, hown, hts⟩ (k_count l c9 hI9 (EX.P hE hC) (by omega)) (cwV 1 hts gX4_isSame_X3_count rfl rfl rfl (by decide +kernel) ⟨Nat.le_of_ble_eq_true rfl, Nat.le_of_ble_eq_true rfl⟩) (cP_V hK (va_recv hK.1 (AT.one (EX.at hE (hC 0 _ rfl))) (ci := 3) (q0 := 0) rfl rfl)) rfl rfl hl.1 rfl (lv_room (Nat.le_of_ble_eq_true rfl)) dX4_isSame_801 ⟨by show _ ≤ 280; omega, by show _ ≤ 3500; omega⟩) ?_
              refine lv_aload hx hb dX4_isSame_804 (lv_at hl 1 rfl) ?_
              refine lv_iload hx hb dX4_isSame_806 (lv_at hl 0 rfl) ?_
              refine fa_iald (D := D) (j := c9) hx hb hK (hP 0 _ rfl) (by omega) (by omega) dX4_isSame_808 ?_
              refine lv_icmp_eq (tgt := 814) hx hb dX4_isSame_809 (by decide) (fun _ => ?_) (fun h9 => absurd (hcou c9 (by omega)) h9)
              refine lv_iinc (v := nI (c9 + 1)) (x := nI c9) (lv' := [(9, .int (nI (c9 + 1))), (8, .ref q10), (6, .int (sI mn (4 * N))), (5, .int (nI (srt al N))), (4, .int (nI (ct (dtd fr) N))), (3, .int (sI ph N)), (2, .int (phs ph N)), (0, .ref a), (1, .ref (ad 0))]) hx hb dX4_isSame_814 hl (k := 0) rfl (nI_1 c9) (by decide) rfl (fun ls hl => ?_)
              refine lv_goto (tgt := 791) hx hb dX4_isSame_817 (by decide) ?_
              exact ih791 (c9 + 1)  (by omega) (by omega)   _ (lv_sub hl [0, 1, 2, 3, 4, 5, 6, 7, 8] rfl)
        · refine lv_iconst (v := 0) hx hb dX4_isSame_172 (by decide) ?_
          refine lv_istore (lv' := [(9, .int 0), (8, .int (nI l9)), (6, .int (sI mn (4 * l9))), (5, .int (nI (srt al l9))), (4, .int (nI (ct (dtd fr) l9))), (3, .int (sI ph l9)), (2, .int (phs ph l9)), (0, .ref a), (1, .ref (ad 0))]) hx hb dX4_isSame_173 hl (by decide) rfl (fun ls hl => ?_)
          refine lv_iconst (v := 0) hx hb dX4_isSame_175 (by decide) ?_
          refine lv_istore (lv' := [(10, .int 0), (9, .int 0), (8, .int (nI l9)), (6, .int (sI mn (4 * l9))), (5, .int (nI (srt al l9))), (4, .int (nI (ct (dtd fr) l9))), (3, .int (sI ph l9)), (2, .int (phs ph l9)), (0, .ref a), (1, .ref (ad 0))]) hx hb dX4_isSame_176 hl (by decide) rfl (fun ls hl => ?_)
          refine lv_iconst (v := 0) hx hb dX4_isSame_178 (by decide) ?_
          refine lv_istore (lv' := [(11, .int 0), (10, .int 0), (9, .int 0), (8, .int (nI l9)), (6, .int (sI mn (4 * l9))), (5, .int (nI (srt al l9))), (4, .int (nI (ct (dtd fr) l9))), (3, .int (sI ph l9)), (2, .int (phs ph l9)), (0, .ref a), (1, .ref (ad 0))]) hx hb dX4_isSame_179 hl (by decide) rfl (fun ls hl => ?_)
          refine lv_iconst (v := 1) hx hb dX4_isSame_181 (by decide) ?_
          refine lv_istore (lv' := [(12, .int 1), (11, .int 0), (10, .int 0), (9, .int 0), (8, .int (nI l9)), (6, .int (sI mn (4 * l9))), (5, .int (nI (srt al l9))), (4, .int (nI (ct (dtd fr) l9))), (3, .int (sI ph l9)), (2, .int (phs ph l9)), (0, .ref a), (1, .ref (ad 0))]) hx hb dX4_isSame_182 hl (by decide) rfl (fun ls hl => ?_)
          refine lv_iconst (v := 4) hx hb dX4_isSame_184 (by decide) ?_
          refine fa_newI (D := D) (N' := 4) hx hb (hts (.arrayClass .int) (by decide +kernel)) hK hS (by omega) (by show _ ≤ 280; omega) (by show _ ≤ 3500; omega) dX4_isSame_185 (fun q25 H26 hq9 hq27 hE9 hS => ?_)
          obtain ⟨hP, hD⟩ := li_push hP hD hq9 hq27 hE9 (hAz H8 hE hq27)
          have hP : va_P D vwCl [(q25, .inl (cA, 4, .inl (fun _ => 0)))] H26 := hP
          have hD : va_D (fun q => S0 ≤ q) [(q25, .inl (cA, 4, .inl (fun _ => 0)))] := hD
          have hfq25 : H1.size ≤ q25 := by rw [hq27]; exact hE.1
          have hE := KP.trans hE hE9
          refine lv_astore (lv' := [(13, .ref q25), (12, .int 1), (11, .int 0), (10, .int 0), (9, .int 0), (8, .int (nI l9)), (6, .int (sI mn (4 * l9))), (5, .int (nI (srt al l9))), (4, .int (nI (ct (dtd fr) l9))), (3, .int (sI ph l9)), (2, .int (phs ph l9)), (0, .ref a), (1, .ref (ad 0))]) hx hb dX4_isSame_187 hl (by decide) rfl (fun ls hl => ?_)
          refine lv_iconst (v := 0) hx hb dX4_isSame_189 (by decide) ?_
          refine lv_istore (lv' := [(14, .int 0), (13, .ref q25), (12, .int 1), (11, .int 0), (10, .int 0), (9, .int 0), (8, .int (nI l9)), (6, .int (sI mn (4 * l9))), (5, .int (nI (srt al l9))), (4, .int (nI (ct (dtd fr) l9))), (3, .int (sI ph l9)), (2, .int (phs ph l9)), (0, .ref a), (1, .ref (ad 0))]) hx hb dX4_isSame_190 hl (by decide) rfl (fun ls hl => ?_)
          have ew28 : ((fun _ => 0) : Nat → Int32) = ofV mn al l9 0 := of_0w
          have hD : va_D (fun q => S0 ≤ q) [(q25, .inl (cA, 4, .inl (ofV mn al l9 0)))] := by rw [← ew28]; exact hD.sub [0] (by decide) rfl
          have hP : va_P D vwCl [(q25, .inl (cA, 4, .inl (ofV mn al l9 0)))] H26 := by rw [← ew28]; exact hP.sub [0] rfl
          suffices lp192 : ∀ (n k9 : Nat) (xd : Int32) (xc : Int32) (xb : Int32) (xa : Int32), k9 ≤ N → N < k9 + n → xd = bI (fsB al l9 k9) → xc = nI (ct (bt (al l9)) k9) → xb = nI (ct (fun x => bt (be x) l9) k9) → xa = nI (ct (bt (be l9)) k9) → ∀ (H29 : Heap) (locs : List Loc), va_P D vwCl [(q25, .inl (cA, 4, .inl (ofV mn al l9 k9)))] H29 → va_D (fun q => S0 ≤ q) [(q25, .inl (cA, 4, .inl (ofV mn al l9 k9)))] → va_S (fun q => S0 ≤ q) H0 H29 locs → EX H1 H29 → ∀ ls, lv_has ls 17 [(14, .int (nI k9)), (13, .ref q25), (12, .int xd), (11, .int xc), (10, .int xb), (9, .int xa), (8, .int (nI l9)), (6, .int (sI mn (4 * l9))), (5, .int (nI (srt al l9))), (4, .int (nI (ct (dtd fr) l9))), (3, .int (sI ph l9)), (2, .int (phs ph l9)), (0, .ref a), (1, .ref (ad 0))] → W p l e { frames := 7, cells := 280, slots := 3500, locals := 153 } s m ([.ref a, .ref (ad 0)] : List Value).toArray below meth c H29 locs ((0 + 26 + 1) + l9 * 20 + 1) ((0 + 312 + N) + l9 * 257 + 4) (MQ below (lqQ (fun v H1 => v = some (.int 1) ∧ LX D cA S0 ad a B H1) (fun q => S0 ≤ q) H0) ([.ref a, .ref (ad 0)] : List Value).toArray s 280 3500 (fun q => S0 ≤ q)) (F0 m 192 ls []) from lp192 (N + 1) 0 1 0 0 0 (by omega) (by omega) (by first | rfl | (simp []; done) | decide) (by first | rfl | (simp []; done) | decide) (by first | rfl | (simp []; done) | decide) (by first | rfl | (simp []; done) | decide) _ _ hP hD hS hE  _ (lv_sub hl [0, 1, 2, 3, 4, 5, 6, 7, 8, 9, 10, 11, 12, 13] rfl)
          intro n
          induction n with
          | zero => intro k9 xd xc xb xa hk1 hk2; exact absurd hk2 (by omega)
          | succ n ih192 =>
            intro k9 xd xc xb xa hk192 hn192 exd exc exb exa  H29 locs hP hD hS hE  ls hl
            subst exd
            subst exc
            subst exb
            subst exa
            refine lv_iload hx hb dX4_isSame_192 (lv_at hl 0 rfl) ?_
            refine lv_aload_n hx hb dX4_isSame_194 rfl (lv_at hl 12 rfl) ?_
            refine fa_get (D := D) (ci := 4) (v := .int (nI N)) (C := RX4) (T := TX4) (N := 7) hx hb hts hinX4 hown hK (EX.at hE hR.1) rfl 0 (by decide) (hts (.fieldLink RX4 25 "CairnShellsLaw$Sim" "n" "I") (by decide +kernel)) (fun _ h9 => h9) rfl dX4_isSame_195 ?_
            refine my_geN (x := k9) (y := N) (tgt := 507) hx hb dX4_isSame_198 (by decide) (by omega) (by omega) (fun h30 => ?_) (fun h30 => ?_)
            · obtain rfl : N = k9 := by omega
              refine lv_aload_n hx hb dX4_isSame_507 rfl (lv_at hl 12 rfl) ?_
              refine lv_iload hx hb dX4_isSame_508 (lv_at hl 6 rfl) ?_
              refine LQ_go (va_runV (As := [.int (nI l9)]) (rest := []) ⟨hx, hb, hml, hown, hts⟩ (c_X4_phase l (D := D) (cA := cA) (H0 := H29) l9 hN (by omega) (hR.ex hE) hI hp) (cwV 1 hts gX4_isSame_X4_phase rfl rfl rfl (by decide +kernel) ⟨Nat.le_of_ble_eq_true rfl, Nat.le_of_ble_eq_true rfl⟩) (cP_V hK (va_recv hK.1 (AT.one (EX.at hE hR.1)) (ci := 4) (q0 := 0) rfl rfl)) rfl rfl hl.1 rfl (lv_room (Nat.le_of_ble_eq_true rfl)) dX4_isSame_510 ⟨by show _ ≤ 280; omega, by show _ ≤ 3500; omega⟩) hS (fun q h => Nat.le_trans hz (Nat.le_trans hE.1 h)) (fun v9 H31 locs hp9 hk9 hS => ?_)
              have hE9 := hk9.ex (fun q h => h)
              have hP := hE9.P hP
              have hE := KP.trans hE hE9
              obtain rfl := hp9
              refine W.eq (g2 := F0 m 513 ls [.int (ph l9)]) rfl ?_
              refine lv_istore (lv' := [(14, .int (ph l9)), (13, .ref q25), (12, .int (bI (fsB al l9 N))), (11, .int (nI (ct (bt (al l9)) N))), (10, .int (nI (ct (fun x => bt (be x) l9) N))), (9, .int (nI (ct (bt (be l9)) N))), (8, .int (nI l9)), (6, .int (sI mn (4 * l9))), (5, .int (nI (srt al l9))), (4, .int (nI (ct (dtd fr) l9))), (3, .int (sI ph l9)), (2, .int (phs ph l9)), (0, .ref a), (1, .ref (ad 0))]) hx hb dX4_isSame_513 hl (by decide) rfl (fun ls hl => ?_)
              refine lv_bipush (v := 9) hx hb dX4_isSame_515 (by decide) ?_
              refine fa_newI (D := D) (N' := 9) hx hb (hts (.arrayClass .int) (by decide +kernel)) hK hS (by omega) (by show _ ≤ 280; omega) (by show _ ≤ 3500; omega) dX4_isSame_517 (fun q32 H33 hq9 hq34 hE9 hS => ?_)
              obtain ⟨hP, hD⟩ := li_push hP hD hq9 hq34 hE9 (hAz H31 hE hq34)
              have hP : va_P D vwCl [(q25, .inl (cA, 4, .inl (ofV mn al l9 N))), (q32, .inl (cA, 9, .inl (fun _ => 0)))] H33 := hP
              have hD : va_D (fun q => S0 ≤ q) [(q25, .inl (cA, 4, .inl (ofV mn al l9 N))), (q32, .inl (cA, 9, .inl (fun _ => 0)))] := hD
              have hfq32 : H1.size ≤ q32 := by rw [hq34]; exact hE.1
              have hE := KP.trans hE hE9
              refine lv_dup hx hb dX4_isSame_519 rfl ?_
              refine lv_iconst (v := 0) hx hb dX4_isSame_520 (by decide) ?_
              refine lv_aload_n hx hb dX4_isSame_521 rfl (lv_at hl 12 rfl) ?_
              refine lv_iload hx hb dX4_isSame_522 (lv_at hl 6 rfl) ?_
              refine RO_go (va_runV (As := [.int (nI l9)]) (rest := [.int 0, .ref q32, .ref q32]) ⟨hx, hb, hml, hown, hts⟩ (c_X4_from l (D := D) (cA := cA) (H0 := H33) (j := l9) hN (by omega) (hR.ex hE)) (cwV 1 hts gX4_isSame_X4_from rfl rfl rfl (by decide +kernel) ⟨Nat.le_of_ble_eq_true rfl, Nat.le_of_ble_eq_true rfl⟩) (cP_V hK (va_recv hK.1 (AT.one (EX.at hE hR.1)) (ci := 4) (q0 := 0) rfl rfl)) rfl rfl hl.1 rfl (lv_room (Nat.le_of_ble_eq_true rfl)) dX4_isSame_524 ⟨by show _ ≤ 280; omega, by show _ ≤ 3500; omega⟩) ?_
              refine li_iast (D := D) (j := 0) hx hb hK hP hD hS 1 rfl (by omega) (by omega) dX4_isSame_527 (fun H35 locs hP hD hS ho9 => ?_)
              have hP : va_P D vwCl [(q25, .inl (cA, 4, .inl (ofV mn al l9 N))), (q32, .inl (cA, 9, .inl (upd (fun _ => 0) 0 (sF fr (pF al be l9) N))))] H35 := hP
              have hD : va_D (fun q => S0 ≤ q) [(q25, .inl (cA, 4, .inl (ofV mn al l9 N))), (q32, .inl (cA, 9, .inl (upd (fun _ => 0) 0 (sF fr (pF al be l9) N))))] := hD
              have hE := ho9.ex hE hfq32
              refine lv_dup hx hb dX4_isSame_528 rfl ?_
              refine lv_iconst (v := 1) hx hb dX4_isSame_529 (by decide) ?_
              refine lv_aload_n hx hb dX4_isSame_530 rfl (lv_at hl 12 rfl) ?_
              refine lv_iload hx hb dX4_isSame_531 (lv_at hl 6 rfl) ?_
              refine RO_go (va_runV (As := [.int (nI l9)]) (rest := [.int 1, .ref q32, .ref q32]) ⟨hx, hb, hml, hown, hts⟩ (c_X4_to l (D := D) (cA := cA) (H0 := H35) (j := l9) hN (by omega) (hR.ex hE)) (cwV 1 hts gX4_isSame_X4_to rfl rfl rfl (by decide +kernel) ⟨Nat.le_of_ble_eq_true rfl, Nat.le_of_ble_eq_true rfl⟩) (cP_V hK (va_recv hK.1 (AT.one (EX.at hE hR.1)) (ci := 4) (q0 := 0) rfl rfl)) rfl rfl hl.1 rfl (lv_room (Nat.le_of_ble_eq_true rfl)) dX4_isSame_533 ⟨by show _ ≤ 280; omega, by show _ ≤ 3500; omega⟩) ?_
              refine li_iast (D := D) (j := 1) hx hb hK hP hD hS 1 rfl (by omega) (by omega) dX4_isSame_536 (fun H36 locs hP hD hS ho9 => ?_)
              have hP : va_P D vwCl [(q25, .inl (cA, 4, .inl (ofV mn al l9 N))), (q32, .inl (cA, 9, .inl (upd (upd (fun _ => 0) 0 (sF fr (pF al be l9) N)) 1 (sT fr tt (pT al be l9) N))))] H36 := hP
              have hD : va_D (fun q => S0 ≤ q) [(q25, .inl (cA, 4, .inl (ofV mn al l9 N))), (q32, .inl (cA, 9, .inl (upd (upd (fun _ => 0) 0 (sF fr (pF al be l9) N)) 1 (sT fr tt (pT al be l9) N))))] := hD
              have hE := ho9.ex hE hfq32
              refine lv_dup hx hb dX4_isSame_537 rfl ?_
              refine lv_iconst (v := 2) hx hb dX4_isSame_538 (by decide) ?_
              suffices jn37 : ∀ ls, lv_has ls 17 [(14, .int (ph l9)), (13, .ref q25), (12, .int (bI (fsB al l9 N))), (11, .int (nI (ct (bt (al l9)) N))), (10, .int (nI (ct (fun x => bt (be x) l9) N))), (9, .int (nI (ct (bt (be l9)) N))), (8, .int (nI l9)), (6, .int (sI mn (4 * l9))), (5, .int (nI (srt al l9))), (4, .int (nI (ct (dtd fr) l9))), (3, .int (sI ph l9)), (2, .int (phs ph l9)), (0, .ref a), (1, .ref (ad 0))] → W p l e { frames := 7, cells := 280, slots := 3500, locals := 153 } s m ([.ref a, .ref (ad 0)] : List Value).toArray below meth c H36 locs ((0 + 26 + 1) + l9 * 20 + 1 + 17 + 1) ((0 + 312 + N) + l9 * 257 + 4 + 240 + 9) (MQ below (lqQ (fun v H1 => v = some (.int 1) ∧ LX D cA S0 ad a B H1) (fun q => S0 ≤ q) H0) ([.ref a, .ref (ad 0)] : List Value).toArray s 280 3500 (fun q => S0 ≤ q)) (F0 m 559 ls [.int (bI (sD N al be fr tt l9)), .int 2, .ref q32, .ref q32]) by
                refine lv_aload_n hx hb dX4_isSame_539 rfl (lv_at hl 12 rfl) ?_
                refine lv_iload hx hb dX4_isSame_540 (lv_at hl 6 rfl) ?_
                refine RO_go (va_runV (As := [.int (nI l9)]) (rest := [.int 2, .ref q32, .ref q32]) ⟨hx, hb, hml, hown, hts⟩ (c_X4_from l (D := D) (cA := cA) (H0 := H36) (j := l9) hN (by omega) (hR.ex hE)) (cwV 1 hts gX4_isSame_X4_from rfl rfl rfl (by decide +kernel) ⟨Nat.le_of_ble_eq_true rfl, Nat.le_of_ble_eq_true rfl⟩) (cP_V hK (va_recv hK.1 (AT.one (EX.at hE hR.1)) (ci := 4) (q0 := 0) rfl rfl)) rfl rfl hl.1 rfl (lv_room (Nat.le_of_ble_eq_true rfl)) dX4_isSame_542 ⟨by show _ ≤ 280; omega, by show _ ≤ 3500; omega⟩) ?_
                refine lv_aload_n hx hb dX4_isSame_545 rfl (lv_at hl 12 rfl) ?_
                refine lv_iload hx hb dX4_isSame_546 (lv_at hl 6 rfl) ?_
                refine RO_go (va_runV (As := [.int (nI l9)]) (rest := [.int (sF fr (pF al be l9) N), .int 2, .ref q32, .ref q32]) ⟨hx, hb, hml, hown, hts⟩ (c_X4_to l (D := D) (cA := cA) (H0 := H36) (j := l9) hN (by omega) (hR.ex hE)) (cwV 1 hts gX4_isSame_X4_to rfl rfl rfl (by decide +kernel) ⟨Nat.le_of_ble_eq_true rfl, Nat.le_of_ble_eq_true rfl⟩) (cP_V hK (va_recv hK.1 (AT.one (EX.at hE hR.1)) (ci := 4) (q0 := 0) rfl rfl)) rfl rfl hl.1 rfl (lv_room (Nat.le_of_ble_eq_true rfl)) dX4_isSame_548 ⟨by show _ ≤ 280; omega, by show _ ≤ 3500; omega⟩) ?_
                refine lv_icmp_le (tgt := 558) hx hb dX4_isSame_551 (by decide) (fun h38 => ?_) (fun h38 => ?_)
                · refine lv_iconst (v := 0) hx hb dX4_isSame_558 (by decide) ?_
                  have e9 : (0 : Int32) = bI (sD N al be fr tt l9) := (by first | exact bI_of (by simp [sD, h7, h9, h30, h38]) | exact bI_no (by simp [sD, h7, h9, h30, h38]))
                  exact W.eq (congrArg (fun v9 => F0 m 559 ls [.int v9, .int 2, .ref q32, .ref q32]) e9) (jn37 _ hl)
                · refine lv_iconst (v := 1) hx hb dX4_isSame_554 (by decide) ?_
                  refine lv_goto (tgt := 559) hx hb dX4_isSame_555 (by decide) ?_
                  have e9 : (1 : Int32) = bI (sD N al be fr tt l9) := (by first | exact bI_of (by simp [sD, h7, h9, h30, h38]) | exact bI_no (by simp [sD, h7, h9, h30, h38]))
                  exact W.eq (congrArg (fun v9 => F0 m 559 ls [.int v9, .int 2, .ref q32, .ref q32]) e9) (jn37 _ hl)
              intro ls hl
              refine li_iast (D := D) (j := 2) hx hb hK hP hD hS 1 rfl (by omega) (by omega) dX4_isSame_559 (fun H39 locs hP hD hS ho9 => ?_)
              have hP : va_P D vwCl [(q25, .inl (cA, 4, .inl (ofV mn al l9 N))), (q32, .inl (cA, 9, .inl (upd (upd (upd (fun _ => 0) 0 (sF fr (pF al be l9) N)) 1 (sT fr tt (pT al be l9) N)) 2 (bI (sD N al be fr tt l9)))))] H39 := hP
              have hD : va_D (fun q => S0 ≤ q) [(q25, .inl (cA, 4, .inl (ofV mn al l9 N))), (q32, .inl (cA, 9, .inl (upd (upd (upd (fun _ => 0) 0 (sF fr (pF al be l9) N)) 1 (sT fr tt (pT al be l9) N)) 2 (bI (sD N al be fr tt l9)))))] := hD
              have hE := ho9.ex hE hfq32
              refine lv_dup hx hb dX4_isSame_560 rfl ?_
              refine lv_iconst (v := 3) hx hb dX4_isSame_561 (by decide) ?_
              refine lv_iload hx hb dX4_isSame_562 (lv_at hl 0 rfl) ?_
              refine li_iast (D := D) (j := 3) hx hb hK hP hD hS 1 rfl (by omega) (by omega) dX4_isSame_564 (fun H40 locs hP hD hS ho9 => ?_)
              have hP : va_P D vwCl [(q25, .inl (cA, 4, .inl (ofV mn al l9 N))), (q32, .inl (cA, 9, .inl (upd (upd (upd (upd (fun _ => 0) 0 (sF fr (pF al be l9) N)) 1 (sT fr tt (pT al be l9) N)) 2 (bI (sD N al be fr tt l9))) 3 (ph l9))))] H40 := hP
              have hD : va_D (fun q => S0 ≤ q) [(q25, .inl (cA, 4, .inl (ofV mn al l9 N))), (q32, .inl (cA, 9, .inl (upd (upd (upd (upd (fun _ => 0) 0 (sF fr (pF al be l9) N)) 1 (sT fr tt (pT al be l9) N)) 2 (bI (sD N al be fr tt l9))) 3 (ph l9))))] := hD
              have hE := ho9.ex hE hfq32
              refine lv_dup hx hb dX4_isSame_565 rfl ?_
              refine lv_iconst (v := 4) hx hb dX4_isSame_566 (by decide) ?_
              refine lv_iload hx hb dX4_isSame_567 (lv_at hl 5 rfl) ?_
              refine li_iast (D := D) (j := 4) hx hb hK hP hD hS 1 rfl (by omega) (by omega) dX4_isSame_569 (fun H41 locs hP hD hS ho9 => ?_)
              have hP : va_P D vwCl [(q25, .inl (cA, 4, .inl (ofV mn al l9 N))), (q32, .inl (cA, 9, .inl (upd (upd (upd (upd (upd (fun _ => 0) 0 (sF fr (pF al be l9) N)) 1 (sT fr tt (pT al be l9) N)) 2 (bI (sD N al be fr tt l9))) 3 (ph l9)) 4 (nI (ct (bt (be l9)) N)))))] H41 := hP
              have hD : va_D (fun q => S0 ≤ q) [(q25, .inl (cA, 4, .inl (ofV mn al l9 N))), (q32, .inl (cA, 9, .inl (upd (upd (upd (upd (upd (fun _ => 0) 0 (sF fr (pF al be l9) N)) 1 (sT fr tt (pT al be l9) N)) 2 (bI (sD N al be fr tt l9))) 3 (ph l9)) 4 (nI (ct (bt (be l9)) N)))))] := hD
              have hE := ho9.ex hE hfq32
              refine lv_dup hx hb dX4_isSame_570 rfl ?_
              refine lv_iconst (v := 5) hx hb dX4_isSame_571 (by decide) ?_
              refine lv_iload hx hb dX4_isSame_572 (lv_at hl 4 rfl) ?_
              refine li_iast (D := D) (j := 5) hx hb hK hP hD hS 1 rfl (by omega) (by omega) dX4_isSame_574 (fun H42 locs hP hD hS ho9 => ?_)
              have hP : va_P D vwCl [(q25, .inl (cA, 4, .inl (ofV mn al l9 N))), (q32, .inl (cA, 9, .inl (upd (upd (upd (upd (upd (upd (fun _ => 0) 0 (sF fr (pF al be l9) N)) 1 (sT fr tt (pT al be l9) N)) 2 (bI (sD N al be fr tt l9))) 3 (ph l9)) 4 (nI (ct (bt (be l9)) N))) 5 (nI (ct (fun x => bt (be x) l9) N)))))] H42 := hP
              have hD : va_D (fun q => S0 ≤ q) [(q25, .inl (cA, 4, .inl (ofV mn al l9 N))), (q32, .inl (cA, 9, .inl (upd (upd (upd (upd (upd (upd (fun _ => 0) 0 (sF fr (pF al be l9) N)) 1 (sT fr tt (pT al be l9) N)) 2 (bI (sD N al be fr tt l9))) 3 (ph l9)) 4 (nI (ct (bt (be l9)) N))) 5 (nI (ct (fun x => bt (be x) l9) N)))))] := hD
              have hE := ho9.ex hE hfq32
              refine lv_dup hx hb dX4_isSame_575 rfl ?_
              refine lv_bipush (v := 6) hx hb dX4_isSame_576 (by decide) ?_
              refine lv_iload hx hb dX4_isSame_578 (lv_at hl 3 rfl) ?_
              refine li_iast (D := D) (j := 6) hx hb hK hP hD hS 1 rfl (by omega) (by omega) dX4_isSame_580 (fun H43 locs hP hD hS ho9 => ?_)
              have hP : va_P D vwCl [(q25, .inl (cA, 4, .inl (ofV mn al l9 N))), (q32, .inl (cA, 9, .inl (upd (upd (upd (upd (upd (upd (upd (fun _ => 0) 0 (sF fr (pF al be l9) N)) 1 (sT fr tt (pT al be l9) N)) 2 (bI (sD N al be fr tt l9))) 3 (ph l9)) 4 (nI (ct (bt (be l9)) N))) 5 (nI (ct (fun x => bt (be x) l9) N))) 6 (nI (ct (bt (al l9)) N)))))] H43 := hP
              have hD : va_D (fun q => S0 ≤ q) [(q25, .inl (cA, 4, .inl (ofV mn al l9 N))), (q32, .inl (cA, 9, .inl (upd (upd (upd (upd (upd (upd (upd (fun _ => 0) 0 (sF fr (pF al be l9) N)) 1 (sT fr tt (pT al be l9) N)) 2 (bI (sD N al be fr tt l9))) 3 (ph l9)) 4 (nI (ct (bt (be l9)) N))) 5 (nI (ct (fun x => bt (be x) l9) N))) 6 (nI (ct (bt (al l9)) N)))))] := hD
              have hE := ho9.ex hE hfq32
              refine lv_dup hx hb dX4_isSame_581 rfl ?_
              refine lv_bipush (v := 7) hx hb dX4_isSame_582 (by decide) ?_
              refine lv_aload_n hx hb dX4_isSame_584 rfl (lv_at hl 12 rfl) ?_
              refine lv_aload hx hb dX4_isSame_585 (lv_at hl 1 rfl) ?_
              refine LQ_go (va_runV (As := [.ref q25]) (rest := [.int 7, .ref q32, .ref q32]) ⟨hx, hb, hml, hown, hts⟩ (c_X4_season l (D := D) (cA := cA) (H0 := H43) (a := a) (hP 0 _ rfl)) (cwV 1 hts gX4_isSame_X4_season rfl rfl rfl (by decide +kernel) ⟨Nat.le_of_ble_eq_true rfl, Nat.le_of_ble_eq_true rfl⟩) (cP_V hK (va_recv hK.1 (AT.one (EX.at hE hR.1)) (ci := 4) (q0 := 0) rfl rfl)) rfl rfl hl.1 rfl (lv_room (Nat.le_of_ble_eq_true rfl)) dX4_isSame_587 ⟨by show _ ≤ 280; omega, by show _ ≤ 3500; omega⟩) hS (fun q h => Nat.le_trans hz (Nat.le_trans hE.1 h)) (fun v9 H44 locs hp9 hk9 hS => ?_)
              have hE9 := hk9.ex (fun q h => h)
              have hP := hE9.P hP
              have hE := KP.trans hE hE9
              obtain rfl := hp9
              refine W.eq (g2 := F0 m 590 ls [.int (sSe (ofV mn al l9 N 0) (ofV mn al l9 N 1) (ofV mn al l9 N 2) (ofV mn al l9 N 3)), .int 7, .ref q32, .ref q32]) rfl ?_
              refine li_iast (D := D) (j := 7) hx hb hK hP hD hS 1 rfl (by omega) (by omega) dX4_isSame_590 (fun H45 locs hP hD hS ho9 => ?_)
              have hP : va_P D vwCl [(q25, .inl (cA, 4, .inl (ofV mn al l9 N))), (q32, .inl (cA, 9, .inl (upd (upd (upd (upd (upd (upd (upd (upd (fun _ => 0) 0 (sF fr (pF al be l9) N)) 1 (sT fr tt (pT al be l9) N)) 2 (bI (sD N al be fr tt l9))) 3 (ph l9)) 4 (nI (ct (bt (be l9)) N))) 5 (nI (ct (fun x => bt (be x) l9) N))) 6 (nI (ct (bt (al l9)) N))) 7 (sSe (ofV mn al l9 N 0) (ofV mn al l9 N 1) (ofV mn al l9 N 2) (ofV mn al l9 N 3)))))] H45 := hP
              have hD : va_D (fun q => S0 ≤ q) [(q25, .inl (cA, 4, .inl (ofV mn al l9 N))), (q32, .inl (cA, 9, .inl (upd (upd (upd (upd (upd (upd (upd (upd (fun _ => 0) 0 (sF fr (pF al be l9) N)) 1 (sT fr tt (pT al be l9) N)) 2 (bI (sD N al be fr tt l9))) 3 (ph l9)) 4 (nI (ct (bt (be l9)) N))) 5 (nI (ct (fun x => bt (be x) l9) N))) 6 (nI (ct (bt (al l9)) N))) 7 (sSe (ofV mn al l9 N 0) (ofV mn al l9 N 1) (ofV mn al l9 N 2) (ofV mn al l9 N 3)))))] := hD
              have hE := ho9.ex hE hfq32
              refine lv_dup hx hb dX4_isSame_591 rfl ?_
              refine lv_bipush (v := 8) hx hb dX4_isSame_592 (by decide) ?_
              suffices jn46 : ∀ ls, lv_has ls 17 [(14, .int (ph l9)), (13, .ref q25), (12, .int (bI (fsB al l9 N))), (11, .int (nI (ct (bt (al l9)) N))), (10, .int (nI (ct (fun x => bt (be x) l9) N))), (9, .int (nI (ct (bt (be l9)) N))), (8, .int (nI l9)), (6, .int (sI mn (4 * l9))), (5, .int (nI (srt al l9))), (4, .int (nI (ct (dtd fr) l9))), (3, .int (sI ph l9)), (2, .int (phs ph l9)), (0, .ref a), (1, .ref (ad 0))] → W p l e { frames := 7, cells := 280, slots := 3500, locals := 153 } s m ([.ref a, .ref (ad 0)] : List Value).toArray below meth c H45 locs ((0 + 26 + 1) + l9 * 20 + 1 + 17 + 1 + 1) ((0 + 312 + N) + l9 * 257 + 4 + 240 + 9 + 4) (MQ below (lqQ (fun v H1 => v = some (.int 1) ∧ LX D cA S0 ad a B H1) (fun q => S0 ≤ q) H0) ([.ref a, .ref (ad 0)] : List Value).toArray s 280 3500 (fun q => S0 ≤ q)) (F0 m 611 ls [.int (bI (dtd fr l9)), .int 8, .ref q32, .ref q32]) by
                refine lv_aload_n hx hb dX4_isSame_594 rfl (lv_at hl 12 rfl) ?_
                refine fa_get (D := D) (ci := 4) (v := .ref ho) (C := RX4) (T := TX4) (N := 7) hx hb hts hinX4 hown hK (EX.at hE hR.1) rfl 4 (by decide) (hts (.fieldLink RX4 22 "CairnShellsLaw$Sim" "hearths" "[[I") (by decide +kernel)) (fun _ h9 => h9) rfl dX4_isSame_595 ?_
                refine lv_iload hx hb dX4_isSame_598 (lv_at hl 6 rfl) ?_
                refine fa_aald 2 hx hb hK rfl rfl (EX.at hE hR.2.2.2.1.1) rfl (by omega) (by omega) dX4_isSame_600 ?_
                refine lv_iconst (v := 0) hx hb dX4_isSame_601 (by decide) ?_
                refine fa_iald (D := D) (j := 0) hx hb hK (EX.at hE (hR.2.2.2.1.2 l9 (by omega))) (by omega) (by omega) dX4_isSame_602 ?_
                refine W.eq (g2 := F0 m 603 ls [.int (fr l9), .int 8, .ref q32, .ref q32]) rfl ?_
                refine lv_if_ge (tgt := 610) hx hb dX4_isSame_603 (by decide) (fun h47 => ?_) (fun h47 => ?_)
                · refine lv_iconst (v := 1) hx hb dX4_isSame_610 (by decide) ?_
                  have e9 : (1 : Int32) = bI (dtd fr l9) := bI_of (hI9.dtd1 (by omega) (fun q9 => (fa_of_lt q9).2.1 h47))
                  exact W.eq (congrArg (fun v9 => F0 m 611 ls [.int v9, .int 8, .ref q32, .ref q32]) e9) (jn46 _ hl)
                · refine lv_iconst (v := 0) hx hb dX4_isSame_606 (by decide) ?_
                  refine lv_goto (tgt := 611) hx hb dX4_isSame_607 (by decide) ?_
                  have e9 : (0 : Int32) = bI (dtd fr l9) := bI_no ((hI9.neg (by omega)).mp (nle_lt.mp h47))
                  exact W.eq (congrArg (fun v9 => F0 m 611 ls [.int v9, .int 8, .ref q32, .ref q32]) e9) (jn46 _ hl)
              intro ls hl
              refine li_iast (D := D) (j := 8) hx hb hK hP hD hS 1 rfl (by omega) (by omega) dX4_isSame_611 (fun H48 locs hP hD hS ho9 => ?_)
              have hP : va_P D vwCl [(q25, .inl (cA, 4, .inl (ofV mn al l9 N))), (q32, .inl (cA, 9, .inl (upd (upd (upd (upd (upd (upd (upd (upd (upd (fun _ => 0) 0 (sF fr (pF al be l9) N)) 1 (sT fr tt (pT al be l9) N)) 2 (bI (sD N al be fr tt l9))) 3 (ph l9)) 4 (nI (ct (bt (be l9)) N))) 5 (nI (ct (fun x => bt (be x) l9) N))) 6 (nI (ct (bt (al l9)) N))) 7 (sSe (ofV mn al l9 N 0) (ofV mn al l9 N 1) (ofV mn al l9 N 2) (ofV mn al l9 N 3))) 8 (bI (dtd fr l9)))))] H48 := hP
              have hD : va_D (fun q => S0 ≤ q) [(q25, .inl (cA, 4, .inl (ofV mn al l9 N))), (q32, .inl (cA, 9, .inl (upd (upd (upd (upd (upd (upd (upd (upd (upd (fun _ => 0) 0 (sF fr (pF al be l9) N)) 1 (sT fr tt (pT al be l9) N)) 2 (bI (sD N al be fr tt l9))) 3 (ph l9)) 4 (nI (ct (bt (be l9)) N))) 5 (nI (ct (fun x => bt (be x) l9) N))) 6 (nI (ct (bt (al l9)) N))) 7 (sSe (ofV mn al l9 N 0) (ofV mn al l9 N 1) (ofV mn al l9 N 2) (ofV mn al l9 N 3))) 8 (bI (dtd fr l9)))))] := hD
              have hE := ho9.ex hE hfq32
              refine lv_astore (lv' := [(15, .ref q32), (14, .int (ph l9)), (13, .ref q25), (12, .int (bI (fsB al l9 N))), (11, .int (nI (ct (bt (al l9)) N))), (10, .int (nI (ct (fun x => bt (be x) l9) N))), (9, .int (nI (ct (bt (be l9)) N))), (8, .int (nI l9)), (6, .int (sI mn (4 * l9))), (5, .int (nI (srt al l9))), (4, .int (nI (ct (dtd fr) l9))), (3, .int (sI ph l9)), (2, .int (phs ph l9)), (0, .ref a), (1, .ref (ad 0))]) hx hb dX4_isSame_612 hl (by decide) rfl (fun ls hl => ?_)
              have htol : ∀ x, x < 9 → tolV N al be to ph mn bu fi la l9 x = (upd (upd (upd (upd (upd (upd (upd (upd (upd (fun _ => 0) 0 (sF fr (pF al be l9) N)) 1 (sT fr tt (pT al be l9) N)) 2 (bI (sD N al be fr tt l9))) 3 (ph l9)) 4 (nI (ct (bt (be l9)) N))) 5 (nI (ct (fun x => bt (be x) l9) N))) 6 (nI (ct (bt (al l9)) N))) 7 (sSe (ofV mn al l9 N 0) (ofV mn al l9 N 1) (ofV mn al l9 N 2) (ofV mn al l9 N 3))) 8 (bI (dtd fr l9))) x := tol_all hI9 (by omega) rfl rfl rfl rfl rfl rfl rfl rfl rfl
              have hw8 : (upd (upd (upd (upd (upd (upd (upd (upd (upd (fun _ => 0) 0 (sF fr (pF al be l9) N)) 1 (sT fr tt (pT al be l9) N)) 2 (bI (sD N al be fr tt l9))) 3 (ph l9)) 4 (nI (ct (bt (be l9)) N))) 5 (nI (ct (fun x => bt (be x) l9) N))) 6 (nI (ct (bt (al l9)) N))) 7 (sSe (ofV mn al l9 N 0) (ofV mn al l9 N 1) (ofV mn al l9 N 2) (ofV mn al l9 N 3))) 8 (bI (dtd fr l9))) 8 = nI (if dtd fr l9 then 1 else 0) := bI_nI _
              obtain ⟨w9, h9w9⟩ : ∃ w : Nat → Int32, w = upd (upd (upd (upd (upd (upd (upd (upd (upd (fun _ => 0) 0 (sF fr (pF al be l9) N)) 1 (sT fr tt (pT al be l9) N)) 2 (bI (sD N al be fr tt l9))) 3 (ph l9)) 4 (nI (ct (bt (be l9)) N))) 5 (nI (ct (fun x => bt (be x) l9) N))) 6 (nI (ct (bt (al l9)) N))) 7 (sSe (ofV mn al l9 N 0) (ofV mn al l9 N 1) (ofV mn al l9 N 2) (ofV mn al l9 N 3))) 8 (bI (dtd fr l9)) := ⟨_, rfl⟩
              rw [← h9w9] at htol hw8 hP hD
              have hP : va_P D vwCl [(q25, .inl (cA, 4, .inl (ofV mn al l9 N))), (q32, .inl (cA, 9, .inl w9))] H48 := hP
              have hD : va_D (fun q => S0 ≤ q) [(q25, .inl (cA, 4, .inl (ofV mn al l9 N))), (q32, .inl (cA, 9, .inl w9))] := hD
              refine lv_iconst (v := 0) hx hb dX4_isSame_614 (by decide) ?_
              refine lv_istore (lv' := [(16, .int 0), (15, .ref q32), (14, .int (ph l9)), (13, .ref q25), (12, .int (bI (fsB al l9 N))), (11, .int (nI (ct (bt (al l9)) N))), (10, .int (nI (ct (fun x => bt (be x) l9) N))), (9, .int (nI (ct (bt (be l9)) N))), (8, .int (nI l9)), (6, .int (sI mn (4 * l9))), (5, .int (nI (srt al l9))), (4, .int (nI (ct (dtd fr) l9))), (3, .int (sI ph l9)), (2, .int (phs ph l9)), (0, .ref a), (1, .ref (ad 0))]) hx hb dX4_isSame_615 hl (by decide) rfl (fun ls hl => ?_)
              suffices lp617 : ∀ (n v9 : Nat), v9 ≤ 9 → 9 < v9 + n → ∀ ls, lv_has ls 17 [(16, .int (nI v9)), (15, .ref q32), (14, .int (ph l9)), (13, .ref q25), (12, .int (bI (fsB al l9 N))), (11, .int (nI (ct (bt (al l9)) N))), (10, .int (nI (ct (fun x => bt (be x) l9) N))), (9, .int (nI (ct (bt (be l9)) N))), (8, .int (nI l9)), (6, .int (sI mn (4 * l9))), (5, .int (nI (srt al l9))), (4, .int (nI (ct (dtd fr) l9))), (3, .int (sI ph l9)), (2, .int (phs ph l9)), (0, .ref a), (1, .ref (ad 0))] → W p l e { frames := 7, cells := 280, slots := 3500, locals := 153 } s m ([.ref a, .ref (ad 0)] : List Value).toArray below meth c H48 locs ((0 + 26 + 1) + l9 * 20 + 1 + 17 + 1 + 1) ((0 + 312 + N) + l9 * 257 + 4 + 240 + 9 + 4) (MQ below (lqQ (fun v H1 => v = some (.int 1) ∧ LX D cA S0 ad a B H1) (fun q => S0 ≤ q) H0) ([.ref a, .ref (ad 0)] : List Value).toArray s 280 3500 (fun q => S0 ≤ q)) (F0 m 617 ls []) from lp617 (9 + 1) 0  (by omega) (by omega)   _ (lv_sub hl [0, 1, 2, 3, 4, 5, 6, 7, 8, 9, 10, 11, 12, 13, 14, 15] rfl)
              intro n
              induction n with
              | zero => intro v9  hk1 hk2; exact absurd hk2 (by omega)
              | succ n ih617 =>
                intro v9  hk617 hn617   ls hl
                refine lv_iload hx hb dX4_isSame_617 (lv_at hl 0 rfl) ?_
                refine lv_bipush (v := 9) hx hb dX4_isSame_619 (by decide) ?_
                refine my_geN (x := v9) (y := 9) (tgt := 648) hx hb dX4_isSame_621 (by decide) (by omega) (by omega) (fun h50 => ?_) (fun h50 => ?_)
                · obtain rfl : v9 = 9 := by omega
                  refine lv_iconst (v := 0) hx hb dX4_isSame_648 (by decide) ?_
                  refine lv_istore (lv' := [(16, .int 0), (15, .ref q32), (14, .int (ph l9)), (13, .ref q25), (12, .int (bI (fsB al l9 N))), (11, .int (nI (ct (bt (al l9)) N))), (10, .int (nI (ct (fun x => bt (be x) l9) N))), (9, .int (nI (ct (bt (be l9)) N))), (8, .int (nI l9)), (6, .int (sI mn (4 * l9))), (5, .int (nI (srt al l9))), (4, .int (nI (ct (dtd fr) l9))), (3, .int (sI ph l9)), (2, .int (phs ph l9)), (0, .ref a), (1, .ref (ad 0))]) hx hb dX4_isSame_649 hl (by decide) rfl (fun ls hl => ?_)
                  suffices lp651 : ∀ (n u9 : Nat) (ye : Int32), u9 ≤ 4 → 4 < u9 + n → ye = sI mn (4 * l9 + u9) → ∀ ls, lv_has ls 17 [(16, .int (nI u9)), (15, .ref q32), (14, .int (ph l9)), (13, .ref q25), (12, .int (bI (fsB al l9 N))), (11, .int (nI (ct (bt (al l9)) N))), (10, .int (nI (ct (fun x => bt (be x) l9) N))), (9, .int (nI (ct (bt (be l9)) N))), (8, .int (nI l9)), (6, .int ye), (5, .int (nI (srt al l9))), (4, .int (nI (ct (dtd fr) l9))), (3, .int (sI ph l9)), (2, .int (phs ph l9)), (0, .ref a), (1, .ref (ad 0))] → W p l e { frames := 7, cells := 280, slots := 3500, locals := 153 } s m ([.ref a, .ref (ad 0)] : List Value).toArray below meth c H48 locs ((0 + 26 + 1) + l9 * 20 + 1 + 17 + 1 + 1) ((0 + 312 + N) + l9 * 257 + 4 + 240 + 9 + 4) (MQ below (lqQ (fun v H1 => v = some (.int 1) ∧ LX D cA S0 ad a B H1) (fun q => S0 ≤ q) H0) ([.ref a, .ref (ad 0)] : List Value).toArray s 280 3500 (fun q => S0 ≤ q)) (F0 m 651 ls []) from lp651 (4 + 1) 0 (sI mn (4 * l9)) (by omega) (by omega) (by first | rfl | (simp []; done) | decide)  _ (lv_sub hl [0, 1, 2, 3, 4, 5, 6, 7, 8, 9, 10, 11, 12, 13, 14, 15] rfl)
                  intro n
                  induction n with
                  | zero => intro u9 ye hk1 hk2; exact absurd hk2 (by omega)
                  | succ n ih651 =>
                    intro u9 ye hk651 hn651 eye  ls hl
                    subst eye
                    refine lv_iload hx hb dX4_isSame_651 (lv_at hl 0 rfl) ?_
                    refine lv_iconst (v := 4) hx hb dX4_isSame_653 (by decide) ?_
                    refine my_geN (x := u9) (y := 4) (tgt := 696) hx hb dX4_isSame_654 (by decide) (by omega) (by omega) (fun h52 => ?_) (fun h52 => ?_)
                    · obtain rfl : u9 = 4 := by omega
                      refine lv_iload_n hx hb dX4_isSame_696 rfl (lv_at hl 13 rfl) ?_
                      refine lv_iload hx hb dX4_isSame_697 (lv_at hl 2 rfl) ?_
                      refine lv_iconst (v := 1) hx hb dX4_isSame_699 (by decide) ?_
                      refine lv_iadd hx hb dX4_isSame_700 ?_
                      refine va_mmax hx hb (hml.trans hl.1.symm) hown (hts (.methodLink RX4 72 Lib.Math.max.name) (by decide +kernel)) (hts (.static Lib.Math.max.name) (by decide +kernel)) (hts (.initialized "java/lang/Math") (by decide +kernel)) (hts (.code Lib.Math.max.name Lib.Math.max.code 2 (some .int)) (by decide +kernel)) (Nat.le_of_ble_eq_true rfl) (Nat.le_of_ble_eq_true rfl) (by show _ ≤ 280; omega) (by show _ ≤ 3500; omega) dX4_isSame_701 ?_
                      refine lv_istore_n (lv' := [(2, .int (imax (phs ph l9) ((ph l9) + 1))), (16, .int (nI 4)), (15, .ref q32), (14, .int (ph l9)), (13, .ref q25), (12, .int (bI (fsB al l9 N))), (11, .int (nI (ct (bt (al l9)) N))), (10, .int (nI (ct (fun x => bt (be x) l9) N))), (9, .int (nI (ct (bt (be l9)) N))), (8, .int (nI l9)), (6, .int (sI mn (4 * l9 + 4))), (5, .int (nI (srt al l9))), (4, .int (nI (ct (dtd fr) l9))), (3, .int (sI ph l9)), (0, .ref a), (1, .ref (ad 0))]) hx hb dX4_isSame_704 rfl hl (by decide) rfl (fun ls hl => ?_)
                      refine lv_iload_n hx hb dX4_isSame_705 rfl (lv_at hl 13 rfl) ?_
                      refine lv_iload hx hb dX4_isSame_706 (lv_at hl 3 rfl) ?_
                      refine lv_iadd hx hb dX4_isSame_708 ?_
                      refine lv_istore_n (lv' := [(3, .int ((sI ph l9) + (ph l9))), (2, .int (imax (phs ph l9) ((ph l9) + 1))), (16, .int (nI 4)), (15, .ref q32), (14, .int (ph l9)), (13, .ref q25), (12, .int (bI (fsB al l9 N))), (11, .int (nI (ct (bt (al l9)) N))), (10, .int (nI (ct (fun x => bt (be x) l9) N))), (9, .int (nI (ct (bt (be l9)) N))), (8, .int (nI l9)), (6, .int (sI mn (4 * l9 + 4))), (5, .int (nI (srt al l9))), (4, .int (nI (ct (dtd fr) l9))), (0, .ref a), (1, .ref (ad 0))]) hx hb dX4_isSame_709 rfl hl (by decide) rfl (fun ls hl => ?_)
                      refine lv_iload hx hb dX4_isSame_710 (lv_at hl 13 rfl) ?_
                      refine lv_aload hx hb dX4_isSame_712 (lv_at hl 3 rfl) ?_
                      refine lv_bipush (v := 8) hx hb dX4_isSame_714 (by decide) ?_
                      refine fa_iald (D := D) (j := 8) hx hb hK (hP 1 _ rfl) (by omega) (by omega) dX4_isSame_716 ?_
                      rw [hw8]
                      refine my_iaddN (x := ct (dtd fr) l9) (y := (if dtd fr l9 then 1 else 0)) hx hb dX4_isSame_717 ?_
                      refine lv_istore (lv' := [(4, .int (nI ((ct (dtd fr) l9) + (if dtd fr l9 then 1 else 0)))), (3, .int ((sI ph l9) + (ph l9))), (2, .int (imax (phs ph l9) ((ph l9) + 1))), (16, .int (nI 4)), (15, .ref q32), (14, .int (ph l9)), (13, .ref q25), (12, .int (bI (fsB al l9 N))), (11, .int (nI (ct (bt (al l9)) N))), (10, .int (nI (ct (fun x => bt (be x) l9) N))), (9, .int (nI (ct (bt (be l9)) N))), (8, .int (nI l9)), (6, .int (sI mn (4 * l9 + 4))), (5, .int (nI (srt al l9))), (0, .ref a), (1, .ref (ad 0))]) hx hb dX4_isSame_718 hl (by decide) rfl (fun ls hl => ?_)
                      refine lv_iload hx hb dX4_isSame_720 (lv_at hl 13 rfl) ?_
                      suffices jn53 : ∀ ls, lv_has ls 17 [(4, .int (nI ((ct (dtd fr) l9) + (if dtd fr l9 then 1 else 0)))), (3, .int ((sI ph l9) + (ph l9))), (2, .int (imax (phs ph l9) ((ph l9) + 1))), (16, .int (nI 4)), (15, .ref q32), (14, .int (ph l9)), (13, .ref q25), (12, .int (bI (fsB al l9 N))), (11, .int (nI (ct (bt (al l9)) N))), (10, .int (nI (ct (fun x => bt (be x) l9) N))), (9, .int (nI (ct (bt (be l9)) N))), (8, .int (nI l9)), (6, .int (sI mn (4 * l9 + 4))), (5, .int (nI (srt al l9))), (0, .ref a), (1, .ref (ad 0))] → W p l e { frames := 7, cells := 280, slots := 3500, locals := 153 } s m ([.ref a, .ref (ad 0)] : List Value).toArray below meth c H48 locs ((0 + 26 + 1) + l9 * 20 + 1 + 17 + 1 + 1) ((0 + 312 + N) + l9 * 257 + 4 + 240 + 9 + 4) (MQ below (lqQ (fun v H1 => v = some (.int 1) ∧ LX D cA S0 ad a B H1) (fun q => S0 ≤ q) H0) ([.ref a, .ref (ad 0)] : List Value).toArray s 280 3500 (fun q => S0 ≤ q)) (F0 m 732 ls [.int (nI (if fsB al l9 N then 1 else 0)), .int (nI (srt al l9))]) by
                        refine lv_iload hx hb dX4_isSame_722 (lv_at hl 7 rfl) ?_
                        refine my_ifeq_b (tgt := 731) hx hb dX4_isSame_724 (by decide) (fun h54 => ?_) (fun h54 => ?_)
                        · refine lv_iconst (v := 0) hx hb dX4_isSame_731 (by decide) ?_
                          have e9 : (0 : Int32) = nI (if fsB al l9 N then 1 else 0) := (by first | exact bN_f h54 | exact bN_f (by simp [h7, h9, h30, h50, h52, h54]))
                          exact W.eq (congrArg (fun v9 => F0 m 732 ls [.int v9, .int (nI (srt al l9))]) e9) (jn53 _ hl)
                        · refine lv_iconst (v := 1) hx hb dX4_isSame_727 (by decide) ?_
                          refine lv_goto (tgt := 732) hx hb dX4_isSame_728 (by decide) ?_
                          have e9 : (1 : Int32) = nI (if fsB al l9 N then 1 else 0) := (by first | exact bN_t h54 | exact bN_t (by simp [h7, h9, h30, h50, h52, h54]))
                          exact W.eq (congrArg (fun v9 => F0 m 732 ls [.int v9, .int (nI (srt al l9))]) e9) (jn53 _ hl)
                      intro ls hl
                      refine my_iaddN (x := srt al l9) (y := (if fsB al l9 N then 1 else 0)) hx hb dX4_isSame_732 ?_
                      refine lv_istore (lv' := [(5, .int (nI ((srt al l9) + (if fsB al l9 N then 1 else 0)))), (4, .int (nI ((ct (dtd fr) l9) + (if dtd fr l9 then 1 else 0)))), (3, .int ((sI ph l9) + (ph l9))), (2, .int (imax (phs ph l9) ((ph l9) + 1))), (16, .int (nI 4)), (15, .ref q32), (14, .int (ph l9)), (13, .ref q25), (12, .int (bI (fsB al l9 N))), (11, .int (nI (ct (bt (al l9)) N))), (10, .int (nI (ct (fun x => bt (be x) l9) N))), (9, .int (nI (ct (bt (be l9)) N))), (8, .int (nI l9)), (6, .int (sI mn (4 * l9 + 4))), (0, .ref a), (1, .ref (ad 0))]) hx hb dX4_isSame_733 hl (by decide) rfl (fun ls hl => ?_)
                      refine lv_iinc (v := nI (l9 + 1)) (x := nI l9) (lv' := [(8, .int (nI (l9 + 1))), (5, .int (nI ((srt al l9) + (if fsB al l9 N then 1 else 0)))), (4, .int (nI ((ct (dtd fr) l9) + (if dtd fr l9 then 1 else 0)))), (3, .int ((sI ph l9) + (ph l9))), (2, .int (imax (phs ph l9) ((ph l9) + 1))), (16, .int (nI 4)), (15, .ref q32), (14, .int (ph l9)), (13, .ref q25), (12, .int (bI (fsB al l9 N))), (11, .int (nI (ct (bt (al l9)) N))), (10, .int (nI (ct (fun x => bt (be x) l9) N))), (9, .int (nI (ct (bt (be l9)) N))), (6, .int (sI mn (4 * l9 + 4))), (0, .ref a), (1, .ref (ad 0))]) hx hb dX4_isSame_735 hl (k := 12) rfl (nI_1 l9) (by decide) rfl (fun ls hl => ?_)
                      refine lv_goto (tgt := 163) hx hb dX4_isSame_738 (by decide) ?_
                      have hD : va_D (fun q => S0 ≤ q) [] := by exact hD.sub [] (by decide) rfl
                      have hP : va_P D vwCl [] H48 := by exact hP.sub [] rfl
                      exact W.widen (by omega) (by omega) (ih163 (l9 + 1) (sI mn (4 * l9 + 4)) (nI ((srt al l9) + (if fsB al l9 N then 1 else 0))) (nI ((ct (dtd fr) l9) + (if dtd fr l9 then 1 else 0))) ((sI ph l9) + (ph l9)) (imax (phs ph l9) ((ph l9) + 1)) (by omega) (by omega) rfl (fs_srt hN (by omega)) rfl rfl rfl _ _ hP hD hS hE  _ (lv_sub hl [0, 13, 1, 2, 3, 4, 14, 15] rfl))
                    · refine lv_aload_n hx hb dX4_isSame_657 rfl (lv_at hl 15 rfl) ?_
                      refine lv_iload hx hb dX4_isSame_658 (lv_at hl 8 rfl) ?_
                      refine lv_iload hx hb dX4_isSame_660 (lv_at hl 0 rfl) ?_
                      refine RO_go (va_runV (As := [.int (nI l9), .int (nI u9)]) (rest := []) ⟨hx, hb, hml, hown, hts⟩ (k_finds l l9 u9 hI9 (EX.P hE hC) (by omega) (by omega)) (cwV 2 hts gX4_isSame_X3_finds rfl rfl rfl (by decide +kernel) ⟨Nat.le_of_ble_eq_true rfl, Nat.le_of_ble_eq_true rfl⟩) (cP_V hK (va_recv hK.1 (AT.one (EX.at hE (hC 0 _ rfl))) (ci := 3) (q0 := 0) rfl rfl)) rfl rfl hl.1 rfl (lv_room (Nat.le_of_ble_eq_true rfl)) dX4_isSame_662 ⟨by show _ ≤ 280; omega, by show _ ≤ 3500; omega⟩) ?_
                      refine lv_aload hx hb dX4_isSame_665 (lv_at hl 3 rfl) ?_
                      refine lv_iload hx hb dX4_isSame_667 (lv_at hl 0 rfl) ?_
                      refine fa_iald (D := D) (j := u9) hx hb hK (hP 0 _ rfl) (by omega) (by omega) dX4_isSame_669 ?_
                      refine lv_icmp_eq (tgt := 675) hx hb dX4_isSame_670 (by decide) (fun _ => ?_) (fun h9 => absurd (show sS mn (al l9) u9 14 = ofV mn al l9 N u9 from (sS_eq hI (by omega)).trans (if_pos (show u9 < 4 by omega)).symm) h9)
                      refine lv_iload hx hb dX4_isSame_675 (lv_at hl 9 rfl) ?_
                      refine lv_aload_n hx hb dX4_isSame_677 rfl (lv_at hl 14 rfl) ?_
                      refine fa_get (D := D) (ci := 4) (v := .ref fo) (C := RX4) (T := TX4) (N := 7) hx hb hts hinX4 hown hK (EX.at hE hR.1) rfl 3 (by decide) (hts (.fieldLink RX4 19 "CairnShellsLaw$Sim" "finds" "[[I") (by decide +kernel)) (fun _ h9 => h9) rfl dX4_isSame_678 ?_
                      refine lv_iload hx hb dX4_isSame_681 (lv_at hl 8 rfl) ?_
                      refine fa_aald 2 hx hb hK rfl rfl (EX.at hE hR.2.2.2.2.1) rfl (by omega) (by omega) dX4_isSame_683 ?_
                      refine lv_iload hx hb dX4_isSame_684 (lv_at hl 0 rfl) ?_
                      refine fa_iald (D := D) (j := u9) hx hb hK (EX.at hE (hR.2.2.2.2.2 l9 (by omega))) (by omega) (by omega) dX4_isSame_686 ?_
                      refine W.eq (g2 := F0 m 687 ls [.int (mn (l9 * 4 + u9)), .int (sI mn (4 * l9 + u9))]) rfl ?_
                      refine lv_iadd hx hb dX4_isSame_687 ?_
                      refine lv_istore (lv' := [(6, .int ((sI mn (4 * l9 + u9)) + (mn (l9 * 4 + u9)))), (16, .int (nI u9)), (15, .ref q32), (14, .int (ph l9)), (13, .ref q25), (12, .int (bI (fsB al l9 N))), (11, .int (nI (ct (bt (al l9)) N))), (10, .int (nI (ct (fun x => bt (be x) l9) N))), (9, .int (nI (ct (bt (be l9)) N))), (8, .int (nI l9)), (5, .int (nI (srt al l9))), (4, .int (nI (ct (dtd fr) l9))), (3, .int (sI ph l9)), (2, .int (phs ph l9)), (0, .ref a), (1, .ref (ad 0))]) hx hb dX4_isSame_688 hl (by decide) rfl (fun ls hl => ?_)
                      refine lv_iinc (v := nI (u9 + 1)) (x := nI u9) (lv' := [(16, .int (nI (u9 + 1))), (6, .int ((sI mn (4 * l9 + u9)) + (mn (l9 * 4 + u9)))), (15, .ref q32), (14, .int (ph l9)), (13, .ref q25), (12, .int (bI (fsB al l9 N))), (11, .int (nI (ct (bt (al l9)) N))), (10, .int (nI (ct (fun x => bt (be x) l9) N))), (9, .int (nI (ct (bt (be l9)) N))), (8, .int (nI l9)), (5, .int (nI (srt al l9))), (4, .int (nI (ct (dtd fr) l9))), (3, .int (sI ph l9)), (2, .int (phs ph l9)), (0, .ref a), (1, .ref (ad 0))]) hx hb dX4_isSame_690 hl (k := 1) rfl (nI_1 u9) (by decide) rfl (fun ls hl => ?_)
                      refine lv_goto (tgt := 651) hx hb dX4_isSame_693 (by decide) ?_
                      exact ih651 (u9 + 1) ((sI mn (4 * l9 + u9)) + (mn (l9 * 4 + u9))) (by omega) (by omega) sI_st  _ (lv_sub hl [0, 2, 3, 4, 5, 6, 7, 8, 9, 1, 10, 11, 12, 13, 14, 15] rfl)
                · refine lv_aload_n hx hb dX4_isSame_624 rfl (lv_at hl 15 rfl) ?_
                  refine lv_iload hx hb dX4_isSame_625 (lv_at hl 8 rfl) ?_
                  refine lv_iload hx hb dX4_isSame_627 (lv_at hl 0 rfl) ?_
                  refine RO_go (va_runV (As := [.int (nI l9), .int (nI v9)]) (rest := []) ⟨hx, hb, hml, hown, hts⟩ (k_told l l9 v9 hI9 (EX.P hE hC) (by omega) (by omega)) (cwV 2 hts gX4_isSame_X3_told rfl rfl rfl (by decide +kernel) ⟨Nat.le_of_ble_eq_true rfl, Nat.le_of_ble_eq_true rfl⟩) (cP_V hK (va_recv hK.1 (AT.one (EX.at hE (hC 0 _ rfl))) (ci := 3) (q0 := 0) rfl rfl)) rfl rfl hl.1 rfl (lv_room (Nat.le_of_ble_eq_true rfl)) dX4_isSame_629 ⟨by show _ ≤ 280; omega, by show _ ≤ 3500; omega⟩) ?_
                  refine lv_aload hx hb dX4_isSame_632 (lv_at hl 1 rfl) ?_
                  refine lv_iload hx hb dX4_isSame_634 (lv_at hl 0 rfl) ?_
                  refine fa_iald (D := D) (j := v9) hx hb hK (hP 1 _ rfl) (by omega) (by omega) dX4_isSame_636 ?_
                  refine lv_icmp_eq (tgt := 642) hx hb dX4_isSame_637 (by decide) (fun _ => ?_) (fun h9 => absurd (htol v9 (by omega)) h9)
                  refine lv_iinc (v := nI (v9 + 1)) (x := nI v9) (lv' := [(16, .int (nI (v9 + 1))), (15, .ref q32), (14, .int (ph l9)), (13, .ref q25), (12, .int (bI (fsB al l9 N))), (11, .int (nI (ct (bt (al l9)) N))), (10, .int (nI (ct (fun x => bt (be x) l9) N))), (9, .int (nI (ct (bt (be l9)) N))), (8, .int (nI l9)), (6, .int (sI mn (4 * l9))), (5, .int (nI (srt al l9))), (4, .int (nI (ct (dtd fr) l9))), (3, .int (sI ph l9)), (2, .int (phs ph l9)), (0, .ref a), (1, .ref (ad 0))]) hx hb dX4_isSame_642 hl (k := 0) rfl (nI_1 v9) (by decide) rfl (fun ls hl => ?_)
                  refine lv_goto (tgt := 617) hx hb dX4_isSame_645 (by decide) ?_
                  exact ih617 (v9 + 1)  (by omega) (by omega)   _ (lv_sub hl [0, 1, 2, 3, 4, 5, 6, 7, 8, 9, 10, 11, 12, 13, 14, 15] rfl)
            · refine lv_iload hx hb dX4_isSame_201 (lv_at hl 5 rfl) ?_
              suffices jn57 : ∀ ls, lv_has ls 17 [(14, .int (nI k9)), (13, .ref q25), (12, .int (bI (fsB al l9 k9))), (11, .int (nI (ct (bt (al l9)) k9))), (10, .int (nI (ct (fun x => bt (be x) l9) k9))), (9, .int (nI (ct (bt (be l9)) k9))), (8, .int (nI l9)), (6, .int (sI mn (4 * l9))), (5, .int (nI (srt al l9))), (4, .int (nI (ct (dtd fr) l9))), (3, .int (sI ph l9)), (2, .int (phs ph l9)), (0, .ref a), (1, .ref (ad 0))] → W p l e { frames := 7, cells := 280, slots := 3500, locals := 153 } s m ([.ref a, .ref (ad 0)] : List Value).toArray below meth c H29 locs ((0 + 26 + 1) + l9 * 20 + 1) ((0 + 312 + N) + l9 * 257 + 4) (MQ below (lqQ (fun v H1 => v = some (.int 1) ∧ LX D cA S0 ad a B H1) (fun q => S0 ≤ q) H0) ([.ref a, .ref (ad 0)] : List Value).toArray s 280 3500 (fun q => S0 ≤ q)) (F0 m 221 ls [.int (nI (if bt (be l9) k9 then 1 else 0)), .int (nI (ct (bt (be l9)) k9))]) by
                refine lv_aload_n hx hb dX4_isSame_203 rfl (lv_at hl 12 rfl) ?_
                refine fa_get (D := D) (ci := 4) (v := .ref lb1) (C := RX4) (T := TX4) (N := 7) hx hb hts hinX4 hown hK (EX.at hE hR.1) rfl 6 (by decide) (hts (.fieldLink RX4 34 "CairnShellsLaw$Sim" "later" "[[Z") (by decide +kernel)) (fun _ h9 => h9) rfl dX4_isSame_204 ?_
                refine lv_iload hx hb dX4_isSame_207 (lv_at hl 6 rfl) ?_
                refine fa_aald 3 hx hb hK rfl rfl (EX.at hE hR.2.2.1.1) rfl (by omega) (by omega) dX4_isSame_209 ?_
                refine lv_iload hx hb dX4_isSame_210 (lv_at hl 0 rfl) ?_
                refine fa_zald (D := D) (j := k9) hx hb hK (EX.at hE (hR.2.2.1.2 l9 (by omega))) (by omega) (by omega) dX4_isSame_212 ?_
                refine my_ifeq_b (tgt := 220) hx hb dX4_isSame_213 (by decide) (fun h58 => ?_) (fun h58 => ?_)
                · refine lv_iconst (v := 0) hx hb dX4_isSame_220 (by decide) ?_
                  have e9 : (0 : Int32) = nI (if bt (be l9) k9 then 1 else 0) := (by first | exact bN_f h58 | exact bN_f (by simp [h7, h9, h30, h58]))
                  exact W.eq (congrArg (fun v9 => F0 m 221 ls [.int v9, .int (nI (ct (bt (be l9)) k9))]) e9) (jn57 _ hl)
                · refine lv_iconst (v := 1) hx hb dX4_isSame_216 (by decide) ?_
                  refine lv_goto (tgt := 221) hx hb dX4_isSame_217 (by decide) ?_
                  have e9 : (1 : Int32) = nI (if bt (be l9) k9 then 1 else 0) := (by first | exact bN_t h58 | exact bN_t (by simp [h7, h9, h30, h58]))
                  exact W.eq (congrArg (fun v9 => F0 m 221 ls [.int v9, .int (nI (ct (bt (be l9)) k9))]) e9) (jn57 _ hl)
              intro ls hl
              refine my_iaddN (x := ct (bt (be l9)) k9) (y := (if bt (be l9) k9 then 1 else 0)) hx hb dX4_isSame_221 ?_
              refine lv_istore (lv' := [(9, .int (nI ((ct (bt (be l9)) k9) + (if bt (be l9) k9 then 1 else 0)))), (14, .int (nI k9)), (13, .ref q25), (12, .int (bI (fsB al l9 k9))), (11, .int (nI (ct (bt (al l9)) k9))), (10, .int (nI (ct (fun x => bt (be x) l9) k9))), (8, .int (nI l9)), (6, .int (sI mn (4 * l9))), (5, .int (nI (srt al l9))), (4, .int (nI (ct (dtd fr) l9))), (3, .int (sI ph l9)), (2, .int (phs ph l9)), (0, .ref a), (1, .ref (ad 0))]) hx hb dX4_isSame_222 hl (by decide) rfl (fun ls hl => ?_)
              refine lv_iload hx hb dX4_isSame_224 (lv_at hl 5 rfl) ?_
              suffices jn59 : ∀ ls, lv_has ls 17 [(9, .int (nI ((ct (bt (be l9)) k9) + (if bt (be l9) k9 then 1 else 0)))), (14, .int (nI k9)), (13, .ref q25), (12, .int (bI (fsB al l9 k9))), (11, .int (nI (ct (bt (al l9)) k9))), (10, .int (nI (ct (fun x => bt (be x) l9) k9))), (8, .int (nI l9)), (6, .int (sI mn (4 * l9))), (5, .int (nI (srt al l9))), (4, .int (nI (ct (dtd fr) l9))), (3, .int (sI ph l9)), (2, .int (phs ph l9)), (0, .ref a), (1, .ref (ad 0))] → W p l e { frames := 7, cells := 280, slots := 3500, locals := 153 } s m ([.ref a, .ref (ad 0)] : List Value).toArray below meth c H29 locs ((0 + 26 + 1) + l9 * 20 + 1) ((0 + 312 + N) + l9 * 257 + 4) (MQ below (lqQ (fun v H1 => v = some (.int 1) ∧ LX D cA S0 ad a B H1) (fun q => S0 ≤ q) H0) ([.ref a, .ref (ad 0)] : List Value).toArray s 280 3500 (fun q => S0 ≤ q)) (F0 m 244 ls [.int (nI (if bt (be k9) l9 then 1 else 0)), .int (nI (ct (fun x => bt (be x) l9) k9))]) by
                refine lv_aload_n hx hb dX4_isSame_226 rfl (lv_at hl 12 rfl) ?_
                refine fa_get (D := D) (ci := 4) (v := .ref lb1) (C := RX4) (T := TX4) (N := 7) hx hb hts hinX4 hown hK (EX.at hE hR.1) rfl 6 (by decide) (hts (.fieldLink RX4 34 "CairnShellsLaw$Sim" "later" "[[Z") (by decide +kernel)) (fun _ h9 => h9) rfl dX4_isSame_227 ?_
                refine lv_iload hx hb dX4_isSame_230 (lv_at hl 1 rfl) ?_
                refine fa_aald 3 hx hb hK rfl rfl (EX.at hE hR.2.2.1.1) rfl (by omega) (by omega) dX4_isSame_232 ?_
                refine lv_iload hx hb dX4_isSame_233 (lv_at hl 6 rfl) ?_
                refine fa_zald (D := D) (j := l9) hx hb hK (EX.at hE (hR.2.2.1.2 k9 (by omega))) (by omega) (by omega) dX4_isSame_235 ?_
                refine my_ifeq_b (tgt := 243) hx hb dX4_isSame_236 (by decide) (fun h60 => ?_) (fun h60 => ?_)
                · refine lv_iconst (v := 0) hx hb dX4_isSame_243 (by decide) ?_
                  have e9 : (0 : Int32) = nI (if bt (be k9) l9 then 1 else 0) := (by first | exact bN_f h60 | exact bN_f (by simp [h7, h9, h30, h60]))
                  exact W.eq (congrArg (fun v9 => F0 m 244 ls [.int v9, .int (nI (ct (fun x => bt (be x) l9) k9))]) e9) (jn59 _ hl)
                · refine lv_iconst (v := 1) hx hb dX4_isSame_239 (by decide) ?_
                  refine lv_goto (tgt := 244) hx hb dX4_isSame_240 (by decide) ?_
                  have e9 : (1 : Int32) = nI (if bt (be k9) l9 then 1 else 0) := (by first | exact bN_t h60 | exact bN_t (by simp [h7, h9, h30, h60]))
                  exact W.eq (congrArg (fun v9 => F0 m 244 ls [.int v9, .int (nI (ct (fun x => bt (be x) l9) k9))]) e9) (jn59 _ hl)
              intro ls hl
              refine my_iaddN (x := ct (fun x => bt (be x) l9) k9) (y := (if bt (be k9) l9 then 1 else 0)) hx hb dX4_isSame_244 ?_
              refine lv_istore (lv' := [(10, .int (nI ((ct (fun x => bt (be x) l9) k9) + (if bt (be k9) l9 then 1 else 0)))), (9, .int (nI ((ct (bt (be l9)) k9) + (if bt (be l9) k9 then 1 else 0)))), (14, .int (nI k9)), (13, .ref q25), (12, .int (bI (fsB al l9 k9))), (11, .int (nI (ct (bt (al l9)) k9))), (8, .int (nI l9)), (6, .int (sI mn (4 * l9))), (5, .int (nI (srt al l9))), (4, .int (nI (ct (dtd fr) l9))), (3, .int (sI ph l9)), (2, .int (phs ph l9)), (0, .ref a), (1, .ref (ad 0))]) hx hb dX4_isSame_245 hl (by decide) rfl (fun ls hl => ?_)
              refine lv_iload hx hb dX4_isSame_247 (lv_at hl 5 rfl) ?_
              suffices jn61 : ∀ ls, lv_has ls 17 [(10, .int (nI ((ct (fun x => bt (be x) l9) k9) + (if bt (be k9) l9 then 1 else 0)))), (9, .int (nI ((ct (bt (be l9)) k9) + (if bt (be l9) k9 then 1 else 0)))), (14, .int (nI k9)), (13, .ref q25), (12, .int (bI (fsB al l9 k9))), (11, .int (nI (ct (bt (al l9)) k9))), (8, .int (nI l9)), (6, .int (sI mn (4 * l9))), (5, .int (nI (srt al l9))), (4, .int (nI (ct (dtd fr) l9))), (3, .int (sI ph l9)), (2, .int (phs ph l9)), (0, .ref a), (1, .ref (ad 0))] → W p l e { frames := 7, cells := 280, slots := 3500, locals := 153 } s m ([.ref a, .ref (ad 0)] : List Value).toArray below meth c H29 locs ((0 + 26 + 1) + l9 * 20 + 1) ((0 + 312 + N) + l9 * 257 + 4) (MQ below (lqQ (fun v H1 => v = some (.int 1) ∧ LX D cA S0 ad a B H1) (fun q => S0 ≤ q) H0) ([.ref a, .ref (ad 0)] : List Value).toArray s 280 3500 (fun q => S0 ≤ q)) (F0 m 267 ls [.int (nI (if bt (al l9) k9 then 1 else 0)), .int (nI (ct (bt (al l9)) k9))]) by
                refine lv_aload_n hx hb dX4_isSame_249 rfl (lv_at hl 12 rfl) ?_
                refine fa_get (D := D) (ci := 4) (v := .ref sa1) (C := RX4) (T := TX4) (N := 7) hx hb hts hinX4 hown hK (EX.at hE hR.1) rfl 5 (by decide) (hts (.fieldLink RX4 31 "CairnShellsLaw$Sim" "same" "[[Z") (by decide +kernel)) (fun _ h9 => h9) rfl dX4_isSame_250 ?_
                refine lv_iload hx hb dX4_isSame_253 (lv_at hl 6 rfl) ?_
                refine fa_aald 3 hx hb hK rfl rfl (EX.at hE hR.2.1.1) rfl (by omega) (by omega) dX4_isSame_255 ?_
                refine lv_iload hx hb dX4_isSame_256 (lv_at hl 2 rfl) ?_
                refine fa_zald (D := D) (j := k9) hx hb hK (EX.at hE (hR.2.1.2 l9 (by omega))) (by omega) (by omega) dX4_isSame_258 ?_
                refine my_ifeq_b (tgt := 266) hx hb dX4_isSame_259 (by decide) (fun h62 => ?_) (fun h62 => ?_)
                · refine lv_iconst (v := 0) hx hb dX4_isSame_266 (by decide) ?_
                  have e9 : (0 : Int32) = nI (if bt (al l9) k9 then 1 else 0) := (by first | exact bN_f h62 | exact bN_f (by simp [h7, h9, h30, h62]))
                  exact W.eq (congrArg (fun v9 => F0 m 267 ls [.int v9, .int (nI (ct (bt (al l9)) k9))]) e9) (jn61 _ hl)
                · refine lv_iconst (v := 1) hx hb dX4_isSame_262 (by decide) ?_
                  refine lv_goto (tgt := 267) hx hb dX4_isSame_263 (by decide) ?_
                  have e9 : (1 : Int32) = nI (if bt (al l9) k9 then 1 else 0) := (by first | exact bN_t h62 | exact bN_t (by simp [h7, h9, h30, h62]))
                  exact W.eq (congrArg (fun v9 => F0 m 267 ls [.int v9, .int (nI (ct (bt (al l9)) k9))]) e9) (jn61 _ hl)
              intro ls hl
              refine my_iaddN (x := ct (bt (al l9)) k9) (y := (if bt (al l9) k9 then 1 else 0)) hx hb dX4_isSame_267 ?_
              refine lv_istore (lv' := [(11, .int (nI ((ct (bt (al l9)) k9) + (if bt (al l9) k9 then 1 else 0)))), (10, .int (nI ((ct (fun x => bt (be x) l9) k9) + (if bt (be k9) l9 then 1 else 0)))), (9, .int (nI ((ct (bt (be l9)) k9) + (if bt (be l9) k9 then 1 else 0)))), (14, .int (nI k9)), (13, .ref q25), (12, .int (bI (fsB al l9 k9))), (8, .int (nI l9)), (6, .int (sI mn (4 * l9))), (5, .int (nI (srt al l9))), (4, .int (nI (ct (dtd fr) l9))), (3, .int (sI ph l9)), (2, .int (phs ph l9)), (0, .ref a), (1, .ref (ad 0))]) hx hb dX4_isSame_268 hl (by decide) rfl (fun ls hl => ?_)
              suffices jn63 : ∀ ls, lv_has ls 17 [(11, .int (nI ((ct (bt (al l9)) k9) + (if bt (al l9) k9 then 1 else 0)))), (10, .int (nI ((ct (fun x => bt (be x) l9) k9) + (if bt (be k9) l9 then 1 else 0)))), (9, .int (nI ((ct (bt (be l9)) k9) + (if bt (be l9) k9 then 1 else 0)))), (14, .int (nI k9)), (13, .ref q25), (12, .int (bI (fsB al l9 k9))), (8, .int (nI l9)), (6, .int (sI mn (4 * l9))), (5, .int (nI (srt al l9))), (4, .int (nI (ct (dtd fr) l9))), (3, .int (sI ph l9)), (2, .int (phs ph l9)), (0, .ref a), (1, .ref (ad 0))] → W p l e { frames := 7, cells := 280, slots := 3500, locals := 153 } s m ([.ref a, .ref (ad 0)] : List Value).toArray below meth c H29 locs ((0 + 26 + 1) + l9 * 20 + 1) ((0 + 312 + N) + l9 * 257 + 4) (MQ below (lqQ (fun v H1 => v = some (.int 1) ∧ LX D cA S0 ad a B H1) (fun q => S0 ≤ q) H0) ([.ref a, .ref (ad 0)] : List Value).toArray s 280 3500 (fun q => S0 ≤ q)) (F0 m 300 ls [.int (bI (fsB al l9 k9 && (decide (l9 ≤ k9) || !bt (al l9) k9)))]) by
                refine lv_iload hx hb dX4_isSame_270 (lv_at hl 5 rfl) ?_
                refine my_ifeq_b (tgt := 299) hx hb dX4_isSame_272 (by decide) (fun h64 => ?_) (fun h64 => ?_)
                · refine lv_iconst (v := 0) hx hb dX4_isSame_299 (by decide) ?_
                  have e9 : (0 : Int32) = bI (fsB al l9 k9 && (decide (l9 ≤ k9) || !bt (al l9) k9)) := (by first | exact bI_no h64 | exact bI_no (by simp [h7, h9, h30, h64]))
                  exact W.eq (congrArg (fun v9 => F0 m 300 ls [.int v9]) e9) (jn63 _ hl)
                · refine lv_iload hx hb dX4_isSame_275 (lv_at hl 3 rfl) ?_
                  refine lv_iload hx hb dX4_isSame_277 (lv_at hl 6 rfl) ?_
                  refine my_geN (x := k9) (y := l9) (tgt := 295) hx hb dX4_isSame_279 (by decide) (by omega) (by omega) (fun h65 => ?_) (fun h65 => ?_)
                  · refine lv_iconst (v := 1) hx hb dX4_isSame_295 (by decide) ?_
                    refine lv_goto (tgt := 300) hx hb dX4_isSame_296 (by decide) ?_
                    have e9 : (1 : Int32) = bI (fsB al l9 k9 && (decide (l9 ≤ k9) || !bt (al l9) k9)) := (by first | exact bI_of h65 | exact bI_of (by simp [h7, h9, h30, h64, h65]))
                    exact W.eq (congrArg (fun v9 => F0 m 300 ls [.int v9]) e9) (jn63 _ hl)
                  · refine lv_aload_n hx hb dX4_isSame_282 rfl (lv_at hl 12 rfl) ?_
                    refine fa_get (D := D) (ci := 4) (v := .ref sa1) (C := RX4) (T := TX4) (N := 7) hx hb hts hinX4 hown hK (EX.at hE hR.1) rfl 5 (by decide) (hts (.fieldLink RX4 31 "CairnShellsLaw$Sim" "same" "[[Z") (by decide +kernel)) (fun _ h9 => h9) rfl dX4_isSame_283 ?_
                    refine lv_iload hx hb dX4_isSame_286 (lv_at hl 6 rfl) ?_
                    refine fa_aald 3 hx hb hK rfl rfl (EX.at hE hR.2.1.1) rfl (by omega) (by omega) dX4_isSame_288 ?_
                    refine lv_iload hx hb dX4_isSame_289 (lv_at hl 3 rfl) ?_
                    refine fa_zald (D := D) (j := k9) hx hb hK (EX.at hE (hR.2.1.2 l9 (by omega))) (by omega) (by omega) dX4_isSame_291 ?_
                    refine my_ifne_b (tgt := 299) hx hb dX4_isSame_292 (by decide) (fun h66 => ?_) (fun h66 => ?_)
                    · refine lv_iconst (v := 0) hx hb dX4_isSame_299 (by decide) ?_
                      have e9 : (0 : Int32) = bI (fsB al l9 k9 && (decide (l9 ≤ k9) || !bt (al l9) k9)) := (by first | exact bI_no h66 | exact bI_no (by simp [h7, h9, h30, h64, h65, h66]))
                      exact W.eq (congrArg (fun v9 => F0 m 300 ls [.int v9]) e9) (jn63 _ hl)
                    · refine lv_iconst (v := 1) hx hb dX4_isSame_295 (by decide) ?_
                      refine lv_goto (tgt := 300) hx hb dX4_isSame_296 (by decide) ?_
                      have e9 : (1 : Int32) = bI (fsB al l9 k9 && (decide (l9 ≤ k9) || !bt (al l9) k9)) := (by first | exact bI_of h66 | exact bI_of (by simp [h7, h9, h30, h64, h65, h66]))
                      exact W.eq (congrArg (fun v9 => F0 m 300 ls [.int v9]) e9) (jn63 _ hl)
              intro ls hl
              refine lv_istore (lv' := [(12, .int (bI (fsB al l9 k9 && (decide (l9 ≤ k9) || !bt (al l9) k9)))), (11, .int (nI ((ct (bt (al l9)) k9) + (if bt (al l9) k9 then 1 else 0)))), (10, .int (nI ((ct (fun x => bt (be x) l9) k9) + (if bt (be k9) l9 then 1 else 0)))), (9, .int (nI ((ct (bt (be l9)) k9) + (if bt (be l9) k9 then 1 else 0)))), (14, .int (nI k9)), (13, .ref q25), (8, .int (nI l9)), (6, .int (sI mn (4 * l9))), (5, .int (nI (srt al l9))), (4, .int (nI (ct (dtd fr) l9))), (3, .int (sI ph l9)), (2, .int (phs ph l9)), (0, .ref a), (1, .ref (ad 0))]) hx hb dX4_isSame_300 hl (by decide) rfl (fun ls hl => ?_)
              refine lv_iconst (v := 0) hx hb dX4_isSame_302 (by decide) ?_
              refine lv_istore (lv' := [(15, .int 0), (12, .int (bI (fsB al l9 k9 && (decide (l9 ≤ k9) || !bt (al l9) k9)))), (11, .int (nI ((ct (bt (al l9)) k9) + (if bt (al l9) k9 then 1 else 0)))), (10, .int (nI ((ct (fun x => bt (be x) l9) k9) + (if bt (be k9) l9 then 1 else 0)))), (9, .int (nI ((ct (bt (be l9)) k9) + (if bt (be l9) k9 then 1 else 0)))), (14, .int (nI k9)), (13, .ref q25), (8, .int (nI l9)), (6, .int (sI mn (4 * l9))), (5, .int (nI (srt al l9))), (4, .int (nI (ct (dtd fr) l9))), (3, .int (sI ph l9)), (2, .int (phs ph l9)), (0, .ref a), (1, .ref (ad 0))]) hx hb dX4_isSame_303 hl (by decide) rfl (fun ls hl => ?_)
              have ew67 : (ofV mn al l9 k9 : Nat → Int32) = ofK mn al l9 k9 0 := of_k0
              have hD : va_D (fun q => S0 ≤ q) [(q25, .inl (cA, 4, .inl (ofK mn al l9 k9 0)))] := by rw [← ew67]; exact hD.sub [0] (by decide) rfl
              have hP : va_P D vwCl [(q25, .inl (cA, 4, .inl (ofK mn al l9 k9 0)))] H29 := by rw [← ew67]; exact hP.sub [0] rfl
              suffices lp305 : ∀ (n d9 : Nat), d9 ≤ 4 → 4 < d9 + n → ∀ (H68 : Heap) (locs : List Loc), va_P D vwCl [(q25, .inl (cA, 4, .inl (ofK mn al l9 k9 d9)))] H68 → va_D (fun q => S0 ≤ q) [(q25, .inl (cA, 4, .inl (ofK mn al l9 k9 d9)))] → va_S (fun q => S0 ≤ q) H0 H68 locs → EX H1 H68 → ∀ ls, lv_has ls 17 [(15, .int (nI d9)), (12, .int (bI (fsB al l9 k9 && (decide (l9 ≤ k9) || !bt (al l9) k9)))), (11, .int (nI ((ct (bt (al l9)) k9) + (if bt (al l9) k9 then 1 else 0)))), (10, .int (nI ((ct (fun x => bt (be x) l9) k9) + (if bt (be k9) l9 then 1 else 0)))), (9, .int (nI ((ct (bt (be l9)) k9) + (if bt (be l9) k9 then 1 else 0)))), (14, .int (nI k9)), (13, .ref q25), (8, .int (nI l9)), (6, .int (sI mn (4 * l9))), (5, .int (nI (srt al l9))), (4, .int (nI (ct (dtd fr) l9))), (3, .int (sI ph l9)), (2, .int (phs ph l9)), (0, .ref a), (1, .ref (ad 0))] → W p l e { frames := 7, cells := 280, slots := 3500, locals := 153 } s m ([.ref a, .ref (ad 0)] : List Value).toArray below meth c H68 locs ((0 + 26 + 1) + l9 * 20 + 1) ((0 + 312 + N) + l9 * 257 + 4) (MQ below (lqQ (fun v H1 => v = some (.int 1) ∧ LX D cA S0 ad a B H1) (fun q => S0 ≤ q) H0) ([.ref a, .ref (ad 0)] : List Value).toArray s 280 3500 (fun q => S0 ≤ q)) (F0 m 305 ls []) from lp305 (4 + 1) 0  (by omega) (by omega)  _ _ hP hD hS hE  _ (lv_sub hl [0, 1, 2, 3, 4, 5, 6, 7, 8, 9, 10, 11, 12, 13, 14] rfl)
              intro n
              induction n with
              | zero => intro d9  hk1 hk2; exact absurd hk2 (by omega)
              | succ n ih305 =>
                intro d9  hk305 hn305   H68 locs hP hD hS hE  ls hl
                refine lv_iload hx hb dX4_isSame_305 (lv_at hl 0 rfl) ?_
                refine lv_iconst (v := 4) hx hb dX4_isSame_307 (by decide) ?_
                refine my_geN (x := d9) (y := 4) (tgt := 352) hx hb dX4_isSame_308 (by decide) (by omega) (by omega) (fun h69 => ?_) (fun h69 => ?_)
                · obtain rfl : d9 = 4 := by omega
                  refine lv_iconst (v := 0) hx hb dX4_isSame_352 (by decide) ?_
                  refine lv_istore (lv' := [(15, .int 0), (12, .int (bI (fsB al l9 k9 && (decide (l9 ≤ k9) || !bt (al l9) k9)))), (11, .int (nI ((ct (bt (al l9)) k9) + (if bt (al l9) k9 then 1 else 0)))), (10, .int (nI ((ct (fun x => bt (be x) l9) k9) + (if bt (be k9) l9 then 1 else 0)))), (9, .int (nI ((ct (bt (be l9)) k9) + (if bt (be l9) k9 then 1 else 0)))), (14, .int (nI k9)), (13, .ref q25), (8, .int (nI l9)), (6, .int (sI mn (4 * l9))), (5, .int (nI (srt al l9))), (4, .int (nI (ct (dtd fr) l9))), (3, .int (sI ph l9)), (2, .int (phs ph l9)), (0, .ref a), (1, .ref (ad 0))]) hx hb dX4_isSame_353 hl (by decide) rfl (fun ls hl => ?_)
                  refine lv_iconst (v := 0) hx hb dX4_isSame_355 (by decide) ?_
                  refine lv_istore (lv' := [(16, .int 0), (15, .int 0), (12, .int (bI (fsB al l9 k9 && (decide (l9 ≤ k9) || !bt (al l9) k9)))), (11, .int (nI ((ct (bt (al l9)) k9) + (if bt (al l9) k9 then 1 else 0)))), (10, .int (nI ((ct (fun x => bt (be x) l9) k9) + (if bt (be k9) l9 then 1 else 0)))), (9, .int (nI ((ct (bt (be l9)) k9) + (if bt (be l9) k9 then 1 else 0)))), (14, .int (nI k9)), (13, .ref q25), (8, .int (nI l9)), (6, .int (sI mn (4 * l9))), (5, .int (nI (srt al l9))), (4, .int (nI (ct (dtd fr) l9))), (3, .int (sI ph l9)), (2, .int (phs ph l9)), (0, .ref a), (1, .ref (ad 0))]) hx hb dX4_isSame_356 hl (by decide) rfl (fun ls hl => ?_)
                  suffices lp358 : ∀ (n b9 : Nat) (xe : Int32), b9 ≤ N → N < b9 + n → xe = nI (ct (fun x => (bt (be l9) x && bt (be x) k9) || (bt (be k9) x && bt (be x) l9)) b9) → ∀ ls, lv_has ls 17 [(16, .int (nI b9)), (15, .int xe), (12, .int (bI (fsB al l9 k9 && (decide (l9 ≤ k9) || !bt (al l9) k9)))), (11, .int (nI ((ct (bt (al l9)) k9) + (if bt (al l9) k9 then 1 else 0)))), (10, .int (nI ((ct (fun x => bt (be x) l9) k9) + (if bt (be k9) l9 then 1 else 0)))), (9, .int (nI ((ct (bt (be l9)) k9) + (if bt (be l9) k9 then 1 else 0)))), (14, .int (nI k9)), (13, .ref q25), (8, .int (nI l9)), (6, .int (sI mn (4 * l9))), (5, .int (nI (srt al l9))), (4, .int (nI (ct (dtd fr) l9))), (3, .int (sI ph l9)), (2, .int (phs ph l9)), (0, .ref a), (1, .ref (ad 0))] → W p l e { frames := 7, cells := 280, slots := 3500, locals := 153 } s m ([.ref a, .ref (ad 0)] : List Value).toArray below meth c H68 locs ((0 + 26 + 1) + l9 * 20 + 1) ((0 + 312 + N) + l9 * 257 + 4) (MQ below (lqQ (fun v H1 => v = some (.int 1) ∧ LX D cA S0 ad a B H1) (fun q => S0 ≤ q) H0) ([.ref a, .ref (ad 0)] : List Value).toArray s 280 3500 (fun q => S0 ≤ q)) (F0 m 358 ls []) from lp358 (N + 1) 0 0 (by omega) (by omega) (by first | rfl | (simp []; done) | decide)  _ (lv_sub hl [0, 1, 2, 3, 4, 5, 6, 7, 8, 9, 10, 11, 12, 13, 14, 15] rfl)
                  intro n
                  induction n with
                  | zero => intro b9 xe hk1 hk2; exact absurd hk2 (by omega)
                  | succ n ih358 =>
                    intro b9 xe hk358 hn358 exe  ls hl
                    subst exe
                    refine lv_iload hx hb dX4_isSame_358 (lv_at hl 0 rfl) ?_
                    refine lv_aload_n hx hb dX4_isSame_360 rfl (lv_at hl 14 rfl) ?_
                    refine fa_get (D := D) (ci := 4) (v := .int (nI N)) (C := RX4) (T := TX4) (N := 7) hx hb hts hinX4 hown hK (EX.at hE hR.1) rfl 0 (by decide) (hts (.fieldLink RX4 25 "CairnShellsLaw$Sim" "n" "I") (by decide +kernel)) (fun _ h9 => h9) rfl dX4_isSame_361 ?_
                    refine my_geN (x := b9) (y := N) (tgt := 435) hx hb dX4_isSame_364 (by decide) (by omega) (by omega) (fun h71 => ?_) (fun h71 => ?_)
                    · obtain rfl : N = b9 := by omega
                      refine lv_aload_n hx hb dX4_isSame_435 rfl (lv_at hl 15 rfl) ?_
                      refine lv_iload hx hb dX4_isSame_436 (lv_at hl 8 rfl) ?_
                      refine lv_iload hx hb dX4_isSame_438 (lv_at hl 6 rfl) ?_
                      refine RO_go (va_runV (As := [.int (nI l9), .int (nI k9)]) (rest := []) ⟨hx, hb, hml, hown, hts⟩ (k_later l l9 k9 hI9 (EX.P hE hC) (by omega) (by omega)) (cwV 2 hts gX4_isSame_X3_later rfl rfl rfl (by decide +kernel) ⟨Nat.le_of_ble_eq_true rfl, Nat.le_of_ble_eq_true rfl⟩) (cP_V hK (va_recv hK.1 (AT.one (EX.at hE (hC 0 _ rfl))) (ci := 3) (q0 := 0) rfl rfl)) rfl rfl hl.1 rfl (lv_room (Nat.le_of_ble_eq_true rfl)) dX4_isSame_440 ⟨by show _ ≤ 280; omega, by show _ ≤ 3500; omega⟩) ?_
                      refine lv_aload_n hx hb dX4_isSame_443 rfl (lv_at hl 14 rfl) ?_
                      refine fa_get (D := D) (ci := 4) (v := .ref lb1) (C := RX4) (T := TX4) (N := 7) hx hb hts hinX4 hown hK (EX.at hE hR.1) rfl 6 (by decide) (hts (.fieldLink RX4 34 "CairnShellsLaw$Sim" "later" "[[Z") (by decide +kernel)) (fun _ h9 => h9) rfl dX4_isSame_444 ?_
                      refine lv_iload hx hb dX4_isSame_447 (lv_at hl 8 rfl) ?_
                      refine fa_aald 3 hx hb hK rfl rfl (EX.at hE hR.2.2.1.1) rfl (by omega) (by omega) dX4_isSame_449 ?_
                      refine lv_iload hx hb dX4_isSame_450 (lv_at hl 6 rfl) ?_
                      refine fa_zald (D := D) (j := k9) hx hb hK (EX.at hE (hR.2.2.1.2 l9 (by omega))) (by omega) (by omega) dX4_isSame_452 ?_
                      refine lv_icmp_ne (tgt := 499) hx hb dX4_isSame_453 (by decide) (fun h9 => absurd rfl h9) (fun _ => ?_)
                      refine lv_aload_n hx hb dX4_isSame_456 rfl (lv_at hl 15 rfl) ?_
                      refine lv_iload hx hb dX4_isSame_457 (lv_at hl 8 rfl) ?_
                      refine lv_iload hx hb dX4_isSame_459 (lv_at hl 6 rfl) ?_
                      refine RO_go (va_runV (As := [.int (nI l9), .int (nI k9)]) (rest := []) ⟨hx, hb, hml, hown, hts⟩ (k_between l l9 k9 hI9 (EX.P hE hC) (by omega) (by omega)) (cwV 2 hts gX4_isSame_X3_between rfl rfl rfl (by decide +kernel) ⟨Nat.le_of_ble_eq_true rfl, Nat.le_of_ble_eq_true rfl⟩) (cP_V hK (va_recv hK.1 (AT.one (EX.at hE (hC 0 _ rfl))) (ci := 3) (q0 := 0) rfl rfl)) rfl rfl hl.1 rfl (lv_room (Nat.le_of_ble_eq_true rfl)) dX4_isSame_461 ⟨by show _ ≤ 280; omega, by show _ ≤ 3500; omega⟩) ?_
                      suffices jn73 : ∀ ls, lv_has ls 17 [(16, .int (nI N)), (15, .int (nI (ct (fun x => (bt (be l9) x && bt (be x) k9) || (bt (be k9) x && bt (be x) l9)) N))), (12, .int (bI (fsB al l9 k9 && (decide (l9 ≤ k9) || !bt (al l9) k9)))), (11, .int (nI ((ct (bt (al l9)) k9) + (if bt (al l9) k9 then 1 else 0)))), (10, .int (nI ((ct (fun x => bt (be x) l9) k9) + (if bt (be k9) l9 then 1 else 0)))), (9, .int (nI ((ct (bt (be l9)) k9) + (if bt (be l9) k9 then 1 else 0)))), (14, .int (nI k9)), (13, .ref q25), (8, .int (nI l9)), (6, .int (sI mn (4 * l9))), (5, .int (nI (srt al l9))), (4, .int (nI (ct (dtd fr) l9))), (3, .int (sI ph l9)), (2, .int (phs ph l9)), (0, .ref a), (1, .ref (ad 0))] → W p l e { frames := 7, cells := 280, slots := 3500, locals := 153 } s m ([.ref a, .ref (ad 0)] : List Value).toArray below meth c H68 locs ((0 + 26 + 1) + l9 * 20 + 1) ((0 + 312 + N) + l9 * 257 + 4) (MQ below (lqQ (fun v H1 => v = some (.int 1) ∧ LX D cA S0 ad a B H1) (fun q => S0 ≤ q) H0) ([.ref a, .ref (ad 0)] : List Value).toArray s 280 3500 (fun q => S0 ≤ q)) (F0 m 496 ls [.int (if (bt (be l9) k9 || bt (be k9) l9) = true then nI (ct (fun x => (bt (be l9) x && bt (be x) k9) || (bt (be k9) x && bt (be x) l9)) N) else -1), .int (xbtw be to l9 k9)]) by
                        refine lv_aload_n hx hb dX4_isSame_464 rfl (lv_at hl 14 rfl) ?_
                        refine fa_get (D := D) (ci := 4) (v := .ref lb1) (C := RX4) (T := TX4) (N := 7) hx hb hts hinX4 hown hK (EX.at hE hR.1) rfl 6 (by decide) (hts (.fieldLink RX4 34 "CairnShellsLaw$Sim" "later" "[[Z") (by decide +kernel)) (fun _ h9 => h9) rfl dX4_isSame_465 ?_
                        refine lv_iload hx hb dX4_isSame_468 (lv_at hl 8 rfl) ?_
                        refine fa_aald 3 hx hb hK rfl rfl (EX.at hE hR.2.2.1.1) rfl (by omega) (by omega) dX4_isSame_470 ?_
                        refine lv_iload hx hb dX4_isSame_471 (lv_at hl 6 rfl) ?_
                        refine fa_zald (D := D) (j := k9) hx hb hK (EX.at hE (hR.2.2.1.2 l9 (by omega))) (by omega) (by omega) dX4_isSame_473 ?_
                        refine my_ifne_b (tgt := 490) hx hb dX4_isSame_474 (by decide) (fun h74 => ?_) (fun h74 => ?_)
                        · refine lv_iload hx hb dX4_isSame_490 (lv_at hl 1 rfl) ?_
                          refine lv_goto (tgt := 496) hx hb dX4_isSame_492 (by decide) ?_
                          have e9 : (nI (ct (fun x => (bt (be l9) x && bt (be x) k9) || (bt (be k9) x && bt (be x) l9)) N) : Int32) = (if (bt (be l9) k9 || bt (be k9) l9) = true then nI (ct (fun x => (bt (be l9) x && bt (be x) k9) || (bt (be k9) x && bt (be x) l9)) N) else -1) := (if_pos (by simp [h7, h9, h30, h69, h71, h74])).symm
                          exact W.eq (congrArg (fun v9 => F0 m 496 ls [.int v9, .int (xbtw be to l9 k9)]) e9) (jn73 _ hl)
                        · refine lv_aload_n hx hb dX4_isSame_477 rfl (lv_at hl 14 rfl) ?_
                          refine fa_get (D := D) (ci := 4) (v := .ref lb1) (C := RX4) (T := TX4) (N := 7) hx hb hts hinX4 hown hK (EX.at hE hR.1) rfl 6 (by decide) (hts (.fieldLink RX4 34 "CairnShellsLaw$Sim" "later" "[[Z") (by decide +kernel)) (fun _ h9 => h9) rfl dX4_isSame_478 ?_
                          refine lv_iload hx hb dX4_isSame_481 (lv_at hl 6 rfl) ?_
                          refine fa_aald 3 hx hb hK rfl rfl (EX.at hE hR.2.2.1.1) rfl (by omega) (by omega) dX4_isSame_483 ?_
                          refine lv_iload hx hb dX4_isSame_484 (lv_at hl 8 rfl) ?_
                          refine fa_zald (D := D) (j := l9) hx hb hK (EX.at hE (hR.2.2.1.2 k9 (by omega))) (by omega) (by omega) dX4_isSame_486 ?_
                          refine my_ifeq_b (tgt := 495) hx hb dX4_isSame_487 (by decide) (fun h75 => ?_) (fun h75 => ?_)
                          · refine lv_iconst (v := (-1)) hx hb dX4_isSame_495 (by decide) ?_
                            have e9 : ((-1) : Int32) = (if (bt (be l9) k9 || bt (be k9) l9) = true then nI (ct (fun x => (bt (be l9) x && bt (be x) k9) || (bt (be k9) x && bt (be x) l9)) N) else -1) := (if_neg (by simp [h7, h9, h30, h69, h71, h74, h75])).symm
                            exact W.eq (congrArg (fun v9 => F0 m 496 ls [.int v9, .int (xbtw be to l9 k9)]) e9) (jn73 _ hl)
                          · refine lv_iload hx hb dX4_isSame_490 (lv_at hl 1 rfl) ?_
                            refine lv_goto (tgt := 496) hx hb dX4_isSame_492 (by decide) ?_
                            have e9 : (nI (ct (fun x => (bt (be l9) x && bt (be x) k9) || (bt (be k9) x && bt (be x) l9)) N) : Int32) = (if (bt (be l9) k9 || bt (be k9) l9) = true then nI (ct (fun x => (bt (be l9) x && bt (be x) k9) || (bt (be k9) x && bt (be x) l9)) N) else -1) := (if_pos (by simp [h7, h9, h30, h69, h71, h74, h75])).symm
                            exact W.eq (congrArg (fun v9 => F0 m 496 ls [.int v9, .int (xbtw be to l9 k9)]) e9) (jn73 _ hl)
                      intro ls hl
                      refine lv_icmp_eq (tgt := 501) hx hb dX4_isSame_496 (by decide) (fun _ => ?_) (fun h9 => absurd (btw_eq hI9 (by omega) (by omega)) h9)
                      refine lv_iinc (v := nI (k9 + 1)) (x := nI k9) (lv' := [(14, .int (nI (k9 + 1))), (16, .int (nI N)), (15, .int (nI (ct (fun x => (bt (be l9) x && bt (be x) k9) || (bt (be k9) x && bt (be x) l9)) N))), (12, .int (bI (fsB al l9 k9 && (decide (l9 ≤ k9) || !bt (al l9) k9)))), (11, .int (nI ((ct (bt (al l9)) k9) + (if bt (al l9) k9 then 1 else 0)))), (10, .int (nI ((ct (fun x => bt (be x) l9) k9) + (if bt (be k9) l9 then 1 else 0)))), (9, .int (nI ((ct (bt (be l9)) k9) + (if bt (be l9) k9 then 1 else 0)))), (13, .ref q25), (8, .int (nI l9)), (6, .int (sI mn (4 * l9))), (5, .int (nI (srt al l9))), (4, .int (nI (ct (dtd fr) l9))), (3, .int (sI ph l9)), (2, .int (phs ph l9)), (0, .ref a), (1, .ref (ad 0))]) hx hb dX4_isSame_501 hl (k := 6) rfl (nI_1 k9) (by decide) rfl (fun ls hl => ?_)
                      refine lv_goto (tgt := 192) hx hb dX4_isSame_504 (by decide) ?_
                      have ew77 : (ofK mn al l9 k9 4 : Nat → Int32) = ofV mn al l9 (k9 + 1) := of_k4
                      have hD : va_D (fun q => S0 ≤ q) [(q25, .inl (cA, 4, .inl (ofV mn al l9 (k9 + 1))))] := by rw [← ew77]; exact hD.sub [0] (by decide) rfl
                      have hP : va_P D vwCl [(q25, .inl (cA, 4, .inl (ofV mn al l9 (k9 + 1))))] H68 := by rw [← ew77]; exact hP.sub [0] rfl
                      exact ih192 (k9 + 1) (bI (fsB al l9 k9 && (decide (l9 ≤ k9) || !bt (al l9) k9))) (nI ((ct (bt (al l9)) k9) + (if bt (al l9) k9 then 1 else 0))) (nI ((ct (fun x => bt (be x) l9) k9) + (if bt (be k9) l9 then 1 else 0))) (nI ((ct (bt (be l9)) k9) + (if bt (be l9) k9 then 1 else 0))) (by omega) (by omega) rfl rfl rfl rfl _ _ hP hD hS hE  _ (lv_sub hl [0, 7, 3, 4, 5, 6, 8, 9, 10, 11, 12, 13, 14, 15] rfl)
                    · refine lv_iload hx hb dX4_isSame_367 (lv_at hl 1 rfl) ?_
                      suffices jn78 : ∀ ls, lv_has ls 17 [(16, .int (nI b9)), (15, .int (nI (ct (fun x => (bt (be l9) x && bt (be x) k9) || (bt (be k9) x && bt (be x) l9)) b9))), (12, .int (bI (fsB al l9 k9 && (decide (l9 ≤ k9) || !bt (al l9) k9)))), (11, .int (nI ((ct (bt (al l9)) k9) + (if bt (al l9) k9 then 1 else 0)))), (10, .int (nI ((ct (fun x => bt (be x) l9) k9) + (if bt (be k9) l9 then 1 else 0)))), (9, .int (nI ((ct (bt (be l9)) k9) + (if bt (be l9) k9 then 1 else 0)))), (14, .int (nI k9)), (13, .ref q25), (8, .int (nI l9)), (6, .int (sI mn (4 * l9))), (5, .int (nI (srt al l9))), (4, .int (nI (ct (dtd fr) l9))), (3, .int (sI ph l9)), (2, .int (phs ph l9)), (0, .ref a), (1, .ref (ad 0))] → W p l e { frames := 7, cells := 280, slots := 3500, locals := 153 } s m ([.ref a, .ref (ad 0)] : List Value).toArray below meth c H68 locs ((0 + 26 + 1) + l9 * 20 + 1) ((0 + 312 + N) + l9 * 257 + 4) (MQ below (lqQ (fun v H1 => v = some (.int 1) ∧ LX D cA S0 ad a B H1) (fun q => S0 ≤ q) H0) ([.ref a, .ref (ad 0)] : List Value).toArray s 280 3500 (fun q => S0 ≤ q)) (F0 m 426 ls [.int (nI (if ((bt (be l9) b9 && bt (be b9) k9) || (bt (be k9) b9 && bt (be b9) l9)) then 1 else 0)), .int (nI (ct (fun x => (bt (be l9) x && bt (be x) k9) || (bt (be k9) x && bt (be x) l9)) b9))]) by
                        refine lv_aload_n hx hb dX4_isSame_369 rfl (lv_at hl 14 rfl) ?_
                        refine fa_get (D := D) (ci := 4) (v := .ref lb1) (C := RX4) (T := TX4) (N := 7) hx hb hts hinX4 hown hK (EX.at hE hR.1) rfl 6 (by decide) (hts (.fieldLink RX4 34 "CairnShellsLaw$Sim" "later" "[[Z") (by decide +kernel)) (fun _ h9 => h9) rfl dX4_isSame_370 ?_
                        refine lv_iload hx hb dX4_isSame_373 (lv_at hl 8 rfl) ?_
                        refine fa_aald 3 hx hb hK rfl rfl (EX.at hE hR.2.2.1.1) rfl (by omega) (by omega) dX4_isSame_375 ?_
                        refine lv_iload hx hb dX4_isSame_376 (lv_at hl 0 rfl) ?_
                        refine fa_zald (D := D) (j := b9) hx hb hK (EX.at hE (hR.2.2.1.2 l9 (by omega))) (by omega) (by omega) dX4_isSame_378 ?_
                        refine my_ifeq_b (tgt := 395) hx hb dX4_isSame_379 (by decide) (fun h79 => ?_) (fun h79 => ?_)
                        · refine lv_aload_n hx hb dX4_isSame_395 rfl (lv_at hl 14 rfl) ?_
                          refine fa_get (D := D) (ci := 4) (v := .ref lb1) (C := RX4) (T := TX4) (N := 7) hx hb hts hinX4 hown hK (EX.at hE hR.1) rfl 6 (by decide) (hts (.fieldLink RX4 34 "CairnShellsLaw$Sim" "later" "[[Z") (by decide +kernel)) (fun _ h9 => h9) rfl dX4_isSame_396 ?_
                          refine lv_iload hx hb dX4_isSame_399 (lv_at hl 6 rfl) ?_
                          refine fa_aald 3 hx hb hK rfl rfl (EX.at hE hR.2.2.1.1) rfl (by omega) (by omega) dX4_isSame_401 ?_
                          refine lv_iload hx hb dX4_isSame_402 (lv_at hl 0 rfl) ?_
                          refine fa_zald (D := D) (j := b9) hx hb hK (EX.at hE (hR.2.2.1.2 k9 (by omega))) (by omega) (by omega) dX4_isSame_404 ?_
                          refine my_ifeq_b (tgt := 425) hx hb dX4_isSame_405 (by decide) (fun h80 => ?_) (fun h80 => ?_)
                          · refine lv_iconst (v := 0) hx hb dX4_isSame_425 (by decide) ?_
                            have e9 : (0 : Int32) = nI (if ((bt (be l9) b9 && bt (be b9) k9) || (bt (be k9) b9 && bt (be b9) l9)) then 1 else 0) := (by first | exact bN_f h80 | exact bN_f (by simp [h7, h9, h30, h69, h71, h79, h80]))
                            exact W.eq (congrArg (fun v9 => F0 m 426 ls [.int v9, .int (nI (ct (fun x => (bt (be l9) x && bt (be x) k9) || (bt (be k9) x && bt (be x) l9)) b9))]) e9) (jn78 _ hl)
                          · refine lv_aload_n hx hb dX4_isSame_408 rfl (lv_at hl 14 rfl) ?_
                            refine fa_get (D := D) (ci := 4) (v := .ref lb1) (C := RX4) (T := TX4) (N := 7) hx hb hts hinX4 hown hK (EX.at hE hR.1) rfl 6 (by decide) (hts (.fieldLink RX4 34 "CairnShellsLaw$Sim" "later" "[[Z") (by decide +kernel)) (fun _ h9 => h9) rfl dX4_isSame_409 ?_
                            refine lv_iload hx hb dX4_isSame_412 (lv_at hl 0 rfl) ?_
                            refine fa_aald 3 hx hb hK rfl rfl (EX.at hE hR.2.2.1.1) rfl (by omega) (by omega) dX4_isSame_414 ?_
                            refine lv_iload hx hb dX4_isSame_415 (lv_at hl 8 rfl) ?_
                            refine fa_zald (D := D) (j := l9) hx hb hK (EX.at hE (hR.2.2.1.2 b9 (by omega))) (by omega) (by omega) dX4_isSame_417 ?_
                            refine my_ifeq_b (tgt := 425) hx hb dX4_isSame_418 (by decide) (fun h81 => ?_) (fun h81 => ?_)
                            · refine lv_iconst (v := 0) hx hb dX4_isSame_425 (by decide) ?_
                              have e9 : (0 : Int32) = nI (if ((bt (be l9) b9 && bt (be b9) k9) || (bt (be k9) b9 && bt (be b9) l9)) then 1 else 0) := (by first | exact bN_f h81 | exact bN_f (by simp [h7, h9, h30, h69, h71, h79, h80, h81]))
                              exact W.eq (congrArg (fun v9 => F0 m 426 ls [.int v9, .int (nI (ct (fun x => (bt (be l9) x && bt (be x) k9) || (bt (be k9) x && bt (be x) l9)) b9))]) e9) (jn78 _ hl)
                            · refine lv_iconst (v := 1) hx hb dX4_isSame_421 (by decide) ?_
                              refine lv_goto (tgt := 426) hx hb dX4_isSame_422 (by decide) ?_
                              have e9 : (1 : Int32) = nI (if ((bt (be l9) b9 && bt (be b9) k9) || (bt (be k9) b9 && bt (be b9) l9)) then 1 else 0) := (by first | exact bN_t h81 | exact bN_t (by simp [h7, h9, h30, h69, h71, h79, h80, h81]))
                              exact W.eq (congrArg (fun v9 => F0 m 426 ls [.int v9, .int (nI (ct (fun x => (bt (be l9) x && bt (be x) k9) || (bt (be k9) x && bt (be x) l9)) b9))]) e9) (jn78 _ hl)
                        · refine lv_aload_n hx hb dX4_isSame_382 rfl (lv_at hl 14 rfl) ?_
                          refine fa_get (D := D) (ci := 4) (v := .ref lb1) (C := RX4) (T := TX4) (N := 7) hx hb hts hinX4 hown hK (EX.at hE hR.1) rfl 6 (by decide) (hts (.fieldLink RX4 34 "CairnShellsLaw$Sim" "later" "[[Z") (by decide +kernel)) (fun _ h9 => h9) rfl dX4_isSame_383 ?_
                          refine lv_iload hx hb dX4_isSame_386 (lv_at hl 0 rfl) ?_
                          refine fa_aald 3 hx hb hK rfl rfl (EX.at hE hR.2.2.1.1) rfl (by omega) (by omega) dX4_isSame_388 ?_
                          refine lv_iload hx hb dX4_isSame_389 (lv_at hl 6 rfl) ?_
                          refine fa_zald (D := D) (j := k9) hx hb hK (EX.at hE (hR.2.2.1.2 b9 (by omega))) (by omega) (by omega) dX4_isSame_391 ?_
                          refine my_ifne_b (tgt := 421) hx hb dX4_isSame_392 (by decide) (fun h82 => ?_) (fun h82 => ?_)
                          · refine lv_iconst (v := 1) hx hb dX4_isSame_421 (by decide) ?_
                            refine lv_goto (tgt := 426) hx hb dX4_isSame_422 (by decide) ?_
                            have e9 : (1 : Int32) = nI (if ((bt (be l9) b9 && bt (be b9) k9) || (bt (be k9) b9 && bt (be b9) l9)) then 1 else 0) := (by first | exact bN_t h82 | exact bN_t (by simp [h7, h9, h30, h69, h71, h79, h82]))
                            exact W.eq (congrArg (fun v9 => F0 m 426 ls [.int v9, .int (nI (ct (fun x => (bt (be l9) x && bt (be x) k9) || (bt (be k9) x && bt (be x) l9)) b9))]) e9) (jn78 _ hl)
                          · refine lv_aload_n hx hb dX4_isSame_395 rfl (lv_at hl 14 rfl) ?_
                            refine fa_get (D := D) (ci := 4) (v := .ref lb1) (C := RX4) (T := TX4) (N := 7) hx hb hts hinX4 hown hK (EX.at hE hR.1) rfl 6 (by decide) (hts (.fieldLink RX4 34 "CairnShellsLaw$Sim" "later" "[[Z") (by decide +kernel)) (fun _ h9 => h9) rfl dX4_isSame_396 ?_
                            refine lv_iload hx hb dX4_isSame_399 (lv_at hl 6 rfl) ?_
                            refine fa_aald 3 hx hb hK rfl rfl (EX.at hE hR.2.2.1.1) rfl (by omega) (by omega) dX4_isSame_401 ?_
                            refine lv_iload hx hb dX4_isSame_402 (lv_at hl 0 rfl) ?_
                            refine fa_zald (D := D) (j := b9) hx hb hK (EX.at hE (hR.2.2.1.2 k9 (by omega))) (by omega) (by omega) dX4_isSame_404 ?_
                            refine my_ifeq_b (tgt := 425) hx hb dX4_isSame_405 (by decide) (fun h83 => ?_) (fun h83 => ?_)
                            · refine lv_iconst (v := 0) hx hb dX4_isSame_425 (by decide) ?_
                              have e9 : (0 : Int32) = nI (if ((bt (be l9) b9 && bt (be b9) k9) || (bt (be k9) b9 && bt (be b9) l9)) then 1 else 0) := (by first | exact bN_f h83 | exact bN_f (by simp [h7, h9, h30, h69, h71, h79, h82, h83]))
                              exact W.eq (congrArg (fun v9 => F0 m 426 ls [.int v9, .int (nI (ct (fun x => (bt (be l9) x && bt (be x) k9) || (bt (be k9) x && bt (be x) l9)) b9))]) e9) (jn78 _ hl)
                            · refine lv_aload_n hx hb dX4_isSame_408 rfl (lv_at hl 14 rfl) ?_
                              refine fa_get (D := D) (ci := 4) (v := .ref lb1) (C := RX4) (T := TX4) (N := 7) hx hb hts hinX4 hown hK (EX.at hE hR.1) rfl 6 (by decide) (hts (.fieldLink RX4 34 "CairnShellsLaw$Sim" "later" "[[Z") (by decide +kernel)) (fun _ h9 => h9) rfl dX4_isSame_409 ?_
                              refine lv_iload hx hb dX4_isSame_412 (lv_at hl 0 rfl) ?_
                              refine fa_aald 3 hx hb hK rfl rfl (EX.at hE hR.2.2.1.1) rfl (by omega) (by omega) dX4_isSame_414 ?_
                              refine lv_iload hx hb dX4_isSame_415 (lv_at hl 8 rfl) ?_
                              refine fa_zald (D := D) (j := l9) hx hb hK (EX.at hE (hR.2.2.1.2 b9 (by omega))) (by omega) (by omega) dX4_isSame_417 ?_
                              refine my_ifeq_b (tgt := 425) hx hb dX4_isSame_418 (by decide) (fun h84 => ?_) (fun h84 => ?_)
                              · refine lv_iconst (v := 0) hx hb dX4_isSame_425 (by decide) ?_
                                have e9 : (0 : Int32) = nI (if ((bt (be l9) b9 && bt (be b9) k9) || (bt (be k9) b9 && bt (be b9) l9)) then 1 else 0) := (by first | exact bN_f h84 | exact bN_f (by simp [h7, h9, h30, h69, h71, h79, h82, h83, h84]))
                                exact W.eq (congrArg (fun v9 => F0 m 426 ls [.int v9, .int (nI (ct (fun x => (bt (be l9) x && bt (be x) k9) || (bt (be k9) x && bt (be x) l9)) b9))]) e9) (jn78 _ hl)
                              · refine lv_iconst (v := 1) hx hb dX4_isSame_421 (by decide) ?_
                                refine lv_goto (tgt := 426) hx hb dX4_isSame_422 (by decide) ?_
                                have e9 : (1 : Int32) = nI (if ((bt (be l9) b9 && bt (be b9) k9) || (bt (be k9) b9 && bt (be b9) l9)) then 1 else 0) := (by first | exact bN_t h84 | exact bN_t (by simp [h7, h9, h30, h69, h71, h79, h82, h83, h84]))
                                exact W.eq (congrArg (fun v9 => F0 m 426 ls [.int v9, .int (nI (ct (fun x => (bt (be l9) x && bt (be x) k9) || (bt (be k9) x && bt (be x) l9)) b9))]) e9) (jn78 _ hl)
                      intro ls hl
                      refine my_iaddN (x := ct (fun x => (bt (be l9) x && bt (be x) k9) || (bt (be k9) x && bt (be x) l9)) b9) (y := (if ((bt (be l9) b9 && bt (be b9) k9) || (bt (be k9) b9 && bt (be b9) l9)) then 1 else 0)) hx hb dX4_isSame_426 ?_
                      refine lv_istore (lv' := [(15, .int (nI ((ct (fun x => (bt (be l9) x && bt (be x) k9) || (bt (be k9) x && bt (be x) l9)) b9) + (if ((bt (be l9) b9 && bt (be b9) k9) || (bt (be k9) b9 && bt (be b9) l9)) then 1 else 0)))), (16, .int (nI b9)), (12, .int (bI (fsB al l9 k9 && (decide (l9 ≤ k9) || !bt (al l9) k9)))), (11, .int (nI ((ct (bt (al l9)) k9) + (if bt (al l9) k9 then 1 else 0)))), (10, .int (nI ((ct (fun x => bt (be x) l9) k9) + (if bt (be k9) l9 then 1 else 0)))), (9, .int (nI ((ct (bt (be l9)) k9) + (if bt (be l9) k9 then 1 else 0)))), (14, .int (nI k9)), (13, .ref q25), (8, .int (nI l9)), (6, .int (sI mn (4 * l9))), (5, .int (nI (srt al l9))), (4, .int (nI (ct (dtd fr) l9))), (3, .int (sI ph l9)), (2, .int (phs ph l9)), (0, .ref a), (1, .ref (ad 0))]) hx hb dX4_isSame_427 hl (by decide) rfl (fun ls hl => ?_)
                      refine lv_iinc (v := nI (b9 + 1)) (x := nI b9) (lv' := [(16, .int (nI (b9 + 1))), (15, .int (nI ((ct (fun x => (bt (be l9) x && bt (be x) k9) || (bt (be k9) x && bt (be x) l9)) b9) + (if ((bt (be l9) b9 && bt (be b9) k9) || (bt (be k9) b9 && bt (be b9) l9)) then 1 else 0)))), (12, .int (bI (fsB al l9 k9 && (decide (l9 ≤ k9) || !bt (al l9) k9)))), (11, .int (nI ((ct (bt (al l9)) k9) + (if bt (al l9) k9 then 1 else 0)))), (10, .int (nI ((ct (fun x => bt (be x) l9) k9) + (if bt (be k9) l9 then 1 else 0)))), (9, .int (nI ((ct (bt (be l9)) k9) + (if bt (be l9) k9 then 1 else 0)))), (14, .int (nI k9)), (13, .ref q25), (8, .int (nI l9)), (6, .int (sI mn (4 * l9))), (5, .int (nI (srt al l9))), (4, .int (nI (ct (dtd fr) l9))), (3, .int (sI ph l9)), (2, .int (phs ph l9)), (0, .ref a), (1, .ref (ad 0))]) hx hb dX4_isSame_429 hl (k := 1) rfl (nI_1 b9) (by decide) rfl (fun ls hl => ?_)
                      refine lv_goto (tgt := 358) hx hb dX4_isSame_432 (by decide) ?_
                      exact ih358 (b9 + 1) (nI ((ct (fun x => (bt (be l9) x && bt (be x) k9) || (bt (be k9) x && bt (be x) l9)) b9) + (if ((bt (be l9) b9 && bt (be b9) k9) || (bt (be k9) b9 && bt (be b9) l9)) then 1 else 0))) (by omega) (by omega) rfl  _ (lv_sub hl [0, 1, 2, 3, 4, 5, 6, 7, 8, 9, 10, 11, 12, 13, 14, 15] rfl)
                · refine lv_aload hx hb dX4_isSame_311 (lv_at hl 6 rfl) ?_
                  refine lv_iload hx hb dX4_isSame_313 (lv_at hl 0 rfl) ?_
                  refine lv_dup2_11 hx hb dX4_isSame_315 rfl rfl ?_
                  refine fa_iald (D := D) (j := d9) hx hb hK (hP 0 _ rfl) (by omega) (by omega) dX4_isSame_316 ?_
                  suffices jn85 : ∀ ls, lv_has ls 17 [(15, .int (nI d9)), (12, .int (bI (fsB al l9 k9 && (decide (l9 ≤ k9) || !bt (al l9) k9)))), (11, .int (nI ((ct (bt (al l9)) k9) + (if bt (al l9) k9 then 1 else 0)))), (10, .int (nI ((ct (fun x => bt (be x) l9) k9) + (if bt (be k9) l9 then 1 else 0)))), (9, .int (nI ((ct (bt (be l9)) k9) + (if bt (be l9) k9 then 1 else 0)))), (14, .int (nI k9)), (13, .ref q25), (8, .int (nI l9)), (6, .int (sI mn (4 * l9))), (5, .int (nI (srt al l9))), (4, .int (nI (ct (dtd fr) l9))), (3, .int (sI ph l9)), (2, .int (phs ph l9)), (0, .ref a), (1, .ref (ad 0))] → W p l e { frames := 7, cells := 280, slots := 3500, locals := 153 } s m ([.ref a, .ref (ad 0)] : List Value).toArray below meth c H68 locs ((0 + 26 + 1) + l9 * 20 + 1) ((0 + 312 + N) + l9 * 257 + 4) (MQ below (lqQ (fun v H1 => v = some (.int 1) ∧ LX D cA S0 ad a B H1) (fun q => S0 ≤ q) H0) ([.ref a, .ref (ad 0)] : List Value).toArray s 280 3500 (fun q => S0 ≤ q)) (F0 m 344 ls [.int (if bt (al l9) k9 then mn (k9 * 4 + d9) else 0), .int ((ofK mn al l9 k9 d9) d9), .int (nI d9), .ref q25]) by
                    refine lv_aload_n hx hb dX4_isSame_317 rfl (lv_at hl 13 rfl) ?_
                    refine fa_get (D := D) (ci := 4) (v := .ref sa1) (C := RX4) (T := TX4) (N := 7) hx hb hts hinX4 hown hK (EX.at hE hR.1) rfl 5 (by decide) (hts (.fieldLink RX4 31 "CairnShellsLaw$Sim" "same" "[[Z") (by decide +kernel)) (fun _ h9 => h9) rfl dX4_isSame_318 ?_
                    refine lv_iload hx hb dX4_isSame_321 (lv_at hl 7 rfl) ?_
                    refine fa_aald 3 hx hb hK rfl rfl (EX.at hE hR.2.1.1) rfl (by omega) (by omega) dX4_isSame_323 ?_
                    refine lv_iload hx hb dX4_isSame_324 (lv_at hl 5 rfl) ?_
                    refine fa_zald (D := D) (j := k9) hx hb hK (EX.at hE (hR.2.1.2 l9 (by omega))) (by omega) (by omega) dX4_isSame_326 ?_
                    refine my_ifeq_b (tgt := 343) hx hb dX4_isSame_327 (by decide) (fun h86 => ?_) (fun h86 => ?_)
                    · refine lv_iconst (v := 0) hx hb dX4_isSame_343 (by decide) ?_
                      have e9 : (0 : Int32) = (if bt (al l9) k9 then mn (k9 * 4 + d9) else 0) := (by first | rfl | simp [bI, h7, h9, h30, h69, h86] | (simp [bI, h7, h9, h30, h69, h86]; omega))
                      exact W.eq (congrArg (fun v9 => F0 m 344 ls [.int v9, .int ((ofK mn al l9 k9 d9) d9), .int (nI d9), .ref q25]) e9) (jn85 _ hl)
                    · refine lv_aload_n hx hb dX4_isSame_330 rfl (lv_at hl 13 rfl) ?_
                      refine fa_get (D := D) (ci := 4) (v := .ref fo) (C := RX4) (T := TX4) (N := 7) hx hb hts hinX4 hown hK (EX.at hE hR.1) rfl 3 (by decide) (hts (.fieldLink RX4 19 "CairnShellsLaw$Sim" "finds" "[[I") (by decide +kernel)) (fun _ h9 => h9) rfl dX4_isSame_331 ?_
                      refine lv_iload hx hb dX4_isSame_334 (lv_at hl 5 rfl) ?_
                      refine fa_aald 2 hx hb hK rfl rfl (EX.at hE hR.2.2.2.2.1) rfl (by omega) (by omega) dX4_isSame_336 ?_
                      refine lv_iload hx hb dX4_isSame_337 (lv_at hl 0 rfl) ?_
                      refine fa_iald (D := D) (j := d9) hx hb hK (EX.at hE (hR.2.2.2.2.2 k9 (by omega))) (by omega) (by omega) dX4_isSame_339 ?_
                      refine W.eq (g2 := F0 m 340 ls [.int (mn (k9 * 4 + d9)), .int ((ofK mn al l9 k9 d9) d9), .int (nI d9), .ref q25]) rfl ?_
                      refine lv_goto (tgt := 344) hx hb dX4_isSame_340 (by decide) ?_
                      have e9 : (mn (k9 * 4 + d9) : Int32) = (if bt (al l9) k9 then mn (k9 * 4 + d9) else 0) := (by first | rfl | simp [bI, h7, h9, h30, h69, h86] | (simp [bI, h7, h9, h30, h69, h86]; omega))
                      exact W.eq (congrArg (fun v9 => F0 m 344 ls [.int v9, .int ((ofK mn al l9 k9 d9) d9), .int (nI d9), .ref q25]) e9) (jn85 _ hl)
                  intro ls hl
                  refine lv_iadd hx hb dX4_isSame_344 ?_
                  refine li_iast (D := D) (j := d9) hx hb hK hP hD hS 0 rfl (by omega) (by omega) dX4_isSame_345 (fun H87 locs hP hD hS ho9 => ?_)
                  have hP : va_P D vwCl [(q25, .inl (cA, 4, .inl (upd (ofK mn al l9 k9 d9) d9 (((ofK mn al l9 k9 d9) d9) + (if bt (al l9) k9 then mn (k9 * 4 + d9) else 0)))))] H87 := hP
                  have hD : va_D (fun q => S0 ≤ q) [(q25, .inl (cA, 4, .inl (upd (ofK mn al l9 k9 d9) d9 (((ofK mn al l9 k9 d9) d9) + (if bt (al l9) k9 then mn (k9 * 4 + d9) else 0)))))] := hD
                  have hE := ho9.ex hE hfq25
                  refine lv_iinc (v := nI (d9 + 1)) (x := nI d9) (lv' := [(15, .int (nI (d9 + 1))), (12, .int (bI (fsB al l9 k9 && (decide (l9 ≤ k9) || !bt (al l9) k9)))), (11, .int (nI ((ct (bt (al l9)) k9) + (if bt (al l9) k9 then 1 else 0)))), (10, .int (nI ((ct (fun x => bt (be x) l9) k9) + (if bt (be k9) l9 then 1 else 0)))), (9, .int (nI ((ct (bt (be l9)) k9) + (if bt (be l9) k9 then 1 else 0)))), (14, .int (nI k9)), (13, .ref q25), (8, .int (nI l9)), (6, .int (sI mn (4 * l9))), (5, .int (nI (srt al l9))), (4, .int (nI (ct (dtd fr) l9))), (3, .int (sI ph l9)), (2, .int (phs ph l9)), (0, .ref a), (1, .ref (ad 0))]) hx hb dX4_isSame_346 hl (k := 0) rfl (nI_1 d9) (by decide) rfl (fun ls hl => ?_)
                  refine lv_goto (tgt := 305) hx hb dX4_isSame_349 (by decide) ?_
                  have ew88 : (upd (ofK mn al l9 k9 d9) d9 (((ofK mn al l9 k9 d9) d9) + (if bt (al l9) k9 then mn (k9 * 4 + d9) else 0)) : Nat → Int32) = ofK mn al l9 k9 (d9 + 1) := (of_st (by omega))
                  have hD : va_D (fun q => S0 ≤ q) [(q25, .inl (cA, 4, .inl (ofK mn al l9 k9 (d9 + 1))))] := by rw [← ew88]; exact hD.sub [0] (by decide) rfl
                  have hP : va_P D vwCl [(q25, .inl (cA, 4, .inl (ofK mn al l9 k9 (d9 + 1))))] H87 := by rw [← ew88]; exact hP.sub [0] rfl
                  exact ih305 (d9 + 1)  (by omega) (by omega)  _ _ hP hD hS hE  _ (lv_sub hl [0, 1, 2, 3, 4, 5, 6, 7, 8, 9, 10, 11, 12, 13, 14] rfl)
    · refine lv_iconst (v := (-1)) hx hb dX4_isSame_38 (by decide) ?_
      refine lv_istore (lv' := [(9, .int (-1)), (8, .int (nI pz)), (7, .ref q2), (6, .int 0), (5, .int 0), (4, .int 0), (3, .int 0), (2, .int 0), (0, .ref a), (1, .ref (ad 0))]) hx hb dX4_isSame_39 hl (by decide) rfl (fun ls hl => ?_)
      refine lv_aload_n hx hb dX4_isSame_41 rfl (lv_at hl 8 rfl) ?_
      refine fa_get (D := D) (ci := 4) (v := .int (nI N)) (C := RX4) (T := TX4) (N := 7) hx hb hts hinX4 hown hK (EX.at hE hR.1) rfl 0 (by decide) (hts (.fieldLink RX4 25 "CairnShellsLaw$Sim" "n" "I") (by decide +kernel)) (fun _ h9 => h9) rfl dX4_isSame_42 ?_
      refine lv_iconst (v := 1) hx hb dX4_isSame_45 (by decide) ?_
      refine my_isubN (x := N) (y := 1) hx hb dX4_isSame_46 (by omega) ?_
      refine lv_istore (lv' := [(10, .int (nI (N - 1))), (9, .int (-1)), (8, .int (nI pz)), (7, .ref q2), (6, .int 0), (5, .int 0), (4, .int 0), (3, .int 0), (2, .int 0), (0, .ref a), (1, .ref (ad 0))]) hx hb dX4_isSame_47 hl (by decide) rfl (fun ls hl => ?_)
      suffices lp49 : ∀ (n t : Nat) (r10 : Int32) (r9 : Int32), t ≤ N → N < t + n → r10 = nI (N - t) - 1 → r9 = itD (fun x => frA N be pz x N) N t → ∀ ls, lv_has ls 17 [(10, .int r10), (9, .int r9), (8, .int (nI pz)), (7, .ref q2), (6, .int 0), (5, .int 0), (4, .int 0), (3, .int 0), (2, .int 0), (0, .ref a), (1, .ref (ad 0))] → W p l e { frames := 7, cells := 280, slots := 3500, locals := 153 } s m ([.ref a, .ref (ad 0)] : List Value).toArray below meth c H6 locs (0 + 26 + 1) (0 + 312 + N) (MQ below (lqQ (fun v H1 => v = some (.int 1) ∧ LX D cA S0 ad a B H1) (fun q => S0 ≤ q) H0) ([.ref a, .ref (ad 0)] : List Value).toArray s 280 3500 (fun q => S0 ≤ q)) (F0 m 49 ls []) from lp49 (N + 1) 0 (nI (N - 1)) (-1) (by omega) (by omega) (dn0 hN0) rfl  _ (lv_sub hl [0, 1, 2, 3, 4, 5, 6, 7, 8, 9, 10] rfl)
      intro n
      induction n with
      | zero => intro t r10 r9 hk1 hk2; exact absurd hk2 (by omega)
      | succ n ih49 =>
        intro t r10 r9 hk49 hn49 er10 er9  ls hl
        subst er10
        subst er9
        rcases Nat.lt_or_ge t N with ht | ht
        · rw [dn1 ht] at hl
          refine lv_iload hx hb dX4_isSame_49 (lv_at hl 0 rfl) ?_
          refine my_ltZ (x := N - (t + 1)) (tgt := 135) hx hb dX4_isSame_51 (by decide) (by omega) ?_
          suffices jn90 : ∀ ls, lv_has ls 17 [(10, .int (nI (N - (t + 1)))), (9, .int (itD (fun x => frA N be pz x N) N t)), (8, .int (nI pz)), (7, .ref q2), (6, .int 0), (5, .int 0), (4, .int 0), (3, .int 0), (2, .int 0), (0, .ref a), (1, .ref (ad 0))] → W p l e { frames := 7, cells := 280, slots := 3500, locals := 153 } s m ([.ref a, .ref (ad 0)] : List Value).toArray below meth c H6 locs (0 + 26 + 1) (0 + 312 + N) (MQ below (lqQ (fun v H1 => v = some (.int 1) ∧ LX D cA S0 ad a B H1) (fun q => S0 ≤ q) H0) ([.ref a, .ref (ad 0)] : List Value).toArray s 280 3500 (fun q => S0 ≤ q)) (F0 m 67 ls [.int (bI (!dnB N be pz (N - (t + 1))))]) by
            refine lv_aload hx hb dX4_isSame_54 (lv_at hl 3 rfl) ?_
            refine lv_iload hx hb dX4_isSame_56 (lv_at hl 0 rfl) ?_
            refine fa_zald (D := D) (j := N - (t + 1)) hx hb hK (hP 0 _ rfl) (by omega) (by omega) dX4_isSame_58 ?_
            refine my_ifne_b (tgt := 66) hx hb dX4_isSame_59 (by decide) (fun h91 => ?_) (fun h91 => ?_)
            · refine lv_iconst (v := 0) hx hb dX4_isSame_66 (by decide) ?_
              have e9 : (0 : Int32) = bI (!dnB N be pz (N - (t + 1))) := (by first | exact bI_no h91 | exact bI_no (by simp [h7, h91]))
              exact W.eq (congrArg (fun v9 => F0 m 67 ls [.int v9]) e9) (jn90 _ hl)
            · refine lv_iconst (v := 1) hx hb dX4_isSame_62 (by decide) ?_
              refine lv_goto (tgt := 67) hx hb dX4_isSame_63 (by decide) ?_
              have e9 : (1 : Int32) = bI (!dnB N be pz (N - (t + 1))) := (by first | exact bI_of h91 | exact bI_of (by simp [h7, h91]))
              exact W.eq (congrArg (fun v9 => F0 m 67 ls [.int v9]) e9) (jn90 _ hl)
          intro ls hl
          refine lv_istore (lv' := [(11, .int (bI (!dnB N be pz (N - (t + 1))))), (10, .int (nI (N - (t + 1)))), (9, .int (itD (fun x => frA N be pz x N) N t)), (8, .int (nI pz)), (7, .ref q2), (6, .int 0), (5, .int 0), (4, .int 0), (3, .int 0), (2, .int 0), (0, .ref a), (1, .ref (ad 0))]) hx hb dX4_isSame_67 hl (by decide) rfl (fun ls hl => ?_)
          refine lv_iconst (v := 0) hx hb dX4_isSame_69 (by decide) ?_
          refine lv_istore (lv' := [(12, .int 0), (11, .int (bI (!dnB N be pz (N - (t + 1))))), (10, .int (nI (N - (t + 1)))), (9, .int (itD (fun x => frA N be pz x N) N t)), (8, .int (nI pz)), (7, .ref q2), (6, .int 0), (5, .int 0), (4, .int 0), (3, .int 0), (2, .int 0), (0, .ref a), (1, .ref (ad 0))]) hx hb dX4_isSame_70 hl (by decide) rfl (fun ls hl => ?_)
          suffices lp72 : ∀ (n b : Nat) (r11 : Int32), b ≤ N → N < b + n → r11 = bI (frA N be pz (N - (t + 1)) b) → ∀ ls, lv_has ls 17 [(12, .int (nI b)), (11, .int r11), (10, .int (nI (N - (t + 1)))), (9, .int (itD (fun x => frA N be pz x N) N t)), (8, .int (nI pz)), (7, .ref q2), (6, .int 0), (5, .int 0), (4, .int 0), (3, .int 0), (2, .int 0), (0, .ref a), (1, .ref (ad 0))] → W p l e { frames := 7, cells := 280, slots := 3500, locals := 153 } s m ([.ref a, .ref (ad 0)] : List Value).toArray below meth c H6 locs (0 + 26 + 1) (0 + 312 + N) (MQ below (lqQ (fun v H1 => v = some (.int 1) ∧ LX D cA S0 ad a B H1) (fun q => S0 ≤ q) H0) ([.ref a, .ref (ad 0)] : List Value).toArray s 280 3500 (fun q => S0 ≤ q)) (F0 m 72 ls []) from lp72 (N + 1) 0 (bI (!dnB N be pz (N - (t + 1)))) (by omega) (by omega) (by first | rfl | (simp []; done) | decide)  _ (lv_sub hl [0, 1, 2, 3, 4, 5, 6, 7, 8, 9, 10, 11, 12] rfl)
          intro n
          induction n with
          | zero => intro b r11 hk1 hk2; exact absurd hk2 (by omega)
          | succ n ih72 =>
            intro b r11 hk72 hn72 er11  ls hl
            subst er11
            refine lv_iload hx hb dX4_isSame_72 (lv_at hl 0 rfl) ?_
            refine lv_aload_n hx hb dX4_isSame_74 rfl (lv_at hl 11 rfl) ?_
            refine fa_get (D := D) (ci := 4) (v := .int (nI N)) (C := RX4) (T := TX4) (N := 7) hx hb hts hinX4 hown hK (EX.at hE hR.1) rfl 0 (by decide) (hts (.fieldLink RX4 25 "CairnShellsLaw$Sim" "n" "I") (by decide +kernel)) (fun _ h9 => h9) rfl dX4_isSame_75 ?_
            refine my_geN (x := b) (y := N) (tgt := 120) hx hb dX4_isSame_78 (by decide) (by omega) (by omega) (fun h93 => ?_) (fun h93 => ?_)
            · obtain rfl : N = b := by omega
              refine lv_iload hx hb dX4_isSame_120 (lv_at hl 1 rfl) ?_
              refine my_ifeq_b (tgt := 129) hx hb dX4_isSame_122 (by decide) (fun h94 => ?_) (fun h94 => ?_)
              · refine lv_iinc (v := (nI (N - (t + 1))) + (-1)) (x := nI (N - (t + 1))) (lv' := [(10, .int ((nI (N - (t + 1))) + (-1))), (12, .int (nI N)), (11, .int (bI (frA N be pz (N - (t + 1)) N))), (9, .int (itD (fun x => frA N be pz x N) N t)), (8, .int (nI pz)), (7, .ref q2), (6, .int 0), (5, .int 0), (4, .int 0), (3, .int 0), (2, .int 0), (0, .ref a), (1, .ref (ad 0))]) hx hb dX4_isSame_129 hl (k := 2) rfl rfl (by decide) rfl (fun ls hl => ?_)
                refine lv_goto (tgt := 49) hx hb dX4_isSame_132 (by decide) ?_
                exact ih49 (t + 1) ((nI (N - (t + 1))) + (-1)) (itD (fun x => frA N be pz x N) N t) (by omega) (by omega) dn2 (by simp [itD, h7, h93, h94])  _ (lv_sub hl [0, 3, 4, 5, 6, 7, 8, 9, 10, 11, 12] rfl)
              · refine lv_iload hx hb dX4_isSame_125 (lv_at hl 2 rfl) ?_
                refine lv_istore (lv' := [(9, .int (nI (N - (t + 1)))), (12, .int (nI N)), (11, .int (bI (frA N be pz (N - (t + 1)) N))), (10, .int (nI (N - (t + 1)))), (8, .int (nI pz)), (7, .ref q2), (6, .int 0), (5, .int 0), (4, .int 0), (3, .int 0), (2, .int 0), (0, .ref a), (1, .ref (ad 0))]) hx hb dX4_isSame_127 hl (by decide) rfl (fun ls hl => ?_)
                refine lv_iinc (v := (nI (N - (t + 1))) + (-1)) (x := nI (N - (t + 1))) (lv' := [(10, .int ((nI (N - (t + 1))) + (-1))), (9, .int (nI (N - (t + 1)))), (12, .int (nI N)), (11, .int (bI (frA N be pz (N - (t + 1)) N))), (8, .int (nI pz)), (7, .ref q2), (6, .int 0), (5, .int 0), (4, .int 0), (3, .int 0), (2, .int 0), (0, .ref a), (1, .ref (ad 0))]) hx hb dX4_isSame_129 hl (k := 3) rfl rfl (by decide) rfl (fun ls hl => ?_)
                refine lv_goto (tgt := 49) hx hb dX4_isSame_132 (by decide) ?_
                exact ih49 (t + 1) ((nI (N - (t + 1))) + (-1)) (nI (N - (t + 1))) (by omega) (by omega) dn2 (by simp [itD, h7, h93, h94])  _ (lv_sub hl [0, 1, 4, 5, 6, 7, 8, 9, 10, 11, 12] rfl)
            · suffices jn95 : ∀ ls, lv_has ls 17 [(12, .int (nI b)), (11, .int (bI (frA N be pz (N - (t + 1)) b))), (10, .int (nI (N - (t + 1)))), (9, .int (itD (fun x => frA N be pz x N) N t)), (8, .int (nI pz)), (7, .ref q2), (6, .int 0), (5, .int 0), (4, .int 0), (3, .int 0), (2, .int 0), (0, .ref a), (1, .ref (ad 0))] → W p l e { frames := 7, cells := 280, slots := 3500, locals := 153 } s m ([.ref a, .ref (ad 0)] : List Value).toArray below meth c H6 locs (0 + 26 + 1) (0 + 312 + N) (MQ below (lqQ (fun v H1 => v = some (.int 1) ∧ LX D cA S0 ad a B H1) (fun q => S0 ≤ q) H0) ([.ref a, .ref (ad 0)] : List Value).toArray s 280 3500 (fun q => S0 ≤ q)) (F0 m 112 ls [.int (bI (frA N be pz (N - (t + 1)) b && (dnB N be pz b || !bt (be (N - (t + 1))) b)))]) by
                refine lv_iload hx hb dX4_isSame_81 (lv_at hl 1 rfl) ?_
                refine my_ifeq_b (tgt := 111) hx hb dX4_isSame_83 (by decide) (fun h96 => ?_) (fun h96 => ?_)
                · refine lv_iconst (v := 0) hx hb dX4_isSame_111 (by decide) ?_
                  have e9 : (0 : Int32) = bI (frA N be pz (N - (t + 1)) b && (dnB N be pz b || !bt (be (N - (t + 1))) b)) := (by first | exact bI_no h96 | exact bI_no (by simp [h7, h93, h96]))
                  exact W.eq (congrArg (fun v9 => F0 m 112 ls [.int v9]) e9) (jn95 _ hl)
                · refine lv_aload hx hb dX4_isSame_86 (lv_at hl 5 rfl) ?_
                  refine lv_iload hx hb dX4_isSame_88 (lv_at hl 0 rfl) ?_
                  refine fa_zald (D := D) (j := b) hx hb hK (hP 0 _ rfl) (by omega) (by omega) dX4_isSame_90 ?_
                  refine my_ifne_b (tgt := 107) hx hb dX4_isSame_91 (by decide) (fun h97 => ?_) (fun h97 => ?_)
                  · refine lv_iconst (v := 1) hx hb dX4_isSame_107 (by decide) ?_
                    refine lv_goto (tgt := 112) hx hb dX4_isSame_108 (by decide) ?_
                    have e9 : (1 : Int32) = bI (frA N be pz (N - (t + 1)) b && (dnB N be pz b || !bt (be (N - (t + 1))) b)) := (by first | exact bI_of h97 | exact bI_of (by simp [h7, h93, h96, h97]))
                    exact W.eq (congrArg (fun v9 => F0 m 112 ls [.int v9]) e9) (jn95 _ hl)
                  · refine lv_aload_n hx hb dX4_isSame_94 rfl (lv_at hl 11 rfl) ?_
                    refine fa_get (D := D) (ci := 4) (v := .ref lb1) (C := RX4) (T := TX4) (N := 7) hx hb hts hinX4 hown hK (EX.at hE hR.1) rfl 6 (by decide) (hts (.fieldLink RX4 34 "CairnShellsLaw$Sim" "later" "[[Z") (by decide +kernel)) (fun _ h9 => h9) rfl dX4_isSame_95 ?_
                    refine lv_iload hx hb dX4_isSame_98 (lv_at hl 2 rfl) ?_
                    refine fa_aald 3 hx hb hK rfl rfl (EX.at hE hR.2.2.1.1) rfl (by omega) (by omega) dX4_isSame_100 ?_
                    refine lv_iload hx hb dX4_isSame_101 (lv_at hl 0 rfl) ?_
                    refine fa_zald (D := D) (j := b) hx hb hK (EX.at hE (hR.2.2.1.2 (N - (t + 1)) (by omega))) (by omega) (by omega) dX4_isSame_103 ?_
                    refine my_ifne_b (tgt := 111) hx hb dX4_isSame_104 (by decide) (fun h98 => ?_) (fun h98 => ?_)
                    · refine lv_iconst (v := 0) hx hb dX4_isSame_111 (by decide) ?_
                      have e9 : (0 : Int32) = bI (frA N be pz (N - (t + 1)) b && (dnB N be pz b || !bt (be (N - (t + 1))) b)) := (by first | exact bI_no h98 | exact bI_no (by simp [h7, h93, h96, h97, h98]))
                      exact W.eq (congrArg (fun v9 => F0 m 112 ls [.int v9]) e9) (jn95 _ hl)
                    · refine lv_iconst (v := 1) hx hb dX4_isSame_107 (by decide) ?_
                      refine lv_goto (tgt := 112) hx hb dX4_isSame_108 (by decide) ?_
                      have e9 : (1 : Int32) = bI (frA N be pz (N - (t + 1)) b && (dnB N be pz b || !bt (be (N - (t + 1))) b)) := (by first | exact bI_of h98 | exact bI_of (by simp [h7, h93, h96, h97, h98]))
                      exact W.eq (congrArg (fun v9 => F0 m 112 ls [.int v9]) e9) (jn95 _ hl)
              intro ls hl
              refine lv_istore (lv' := [(11, .int (bI (frA N be pz (N - (t + 1)) b && (dnB N be pz b || !bt (be (N - (t + 1))) b)))), (12, .int (nI b)), (10, .int (nI (N - (t + 1)))), (9, .int (itD (fun x => frA N be pz x N) N t)), (8, .int (nI pz)), (7, .ref q2), (6, .int 0), (5, .int 0), (4, .int 0), (3, .int 0), (2, .int 0), (0, .ref a), (1, .ref (ad 0))]) hx hb dX4_isSame_112 hl (by decide) rfl (fun ls hl => ?_)
              refine lv_iinc (v := nI (b + 1)) (x := nI b) (lv' := [(12, .int (nI (b + 1))), (11, .int (bI (frA N be pz (N - (t + 1)) b && (dnB N be pz b || !bt (be (N - (t + 1))) b)))), (10, .int (nI (N - (t + 1)))), (9, .int (itD (fun x => frA N be pz x N) N t)), (8, .int (nI pz)), (7, .ref q2), (6, .int 0), (5, .int 0), (4, .int 0), (3, .int 0), (2, .int 0), (0, .ref a), (1, .ref (ad 0))]) hx hb dX4_isSame_114 hl (k := 1) rfl (nI_1 b) (by decide) rfl (fun ls hl => ?_)
              refine lv_goto (tgt := 72) hx hb dX4_isSame_117 (by decide) ?_
              exact ih72 (b + 1) (bI (frA N be pz (N - (t + 1)) b && (dnB N be pz b || !bt (be (N - (t + 1))) b))) (by omega) (by omega) rfl  _ (lv_sub hl [0, 1, 2, 3, 4, 5, 6, 7, 8, 9, 10, 11, 12] rfl)
        · obtain rfl : N = t := by omega
          rw [show nI (N - N) - 1 = (-1 : Int32) by rw [Nat.sub_self]; rfl] at hl
          refine lv_iload hx hb dX4_isSame_49 (lv_at hl 0 rfl) ?_
          refine lv_if_lt (tgt := 135) hx hb dX4_isSame_51 (by decide) (fun _ => ?_) (fun h => absurd (by decide) h)
          have har := (arN_min hN (ar_hex hI pz (by omega))).1
          rw [itD_eq hI (show pz < N by omega)] at hl
          refine lv_aload hx hb dX4_isSame_135 (lv_at hl 3 rfl) ?_
          refine lv_iload hx hb dX4_isSame_137 (lv_at hl 1 rfl) ?_
          refine lv_iconst (v := 1) hx hb dX4_isSame_139 (by decide) ?_
          refine li_zast (D := D) (b := true) (j := arN N be pz) hx hb hK hP hD hS 0 rfl (by omega) (by omega) dX4_isSame_140 (fun H99 locs hP hD hS ho9 => ?_)
          have hP : va_P D vwCl [(q2, .inl (D.1 10, N, .inl (upd (fun i9 => bI (dnB N be pz i9)) (arN N be pz) (bI true))))] H99 := hP
          have hD : va_D (fun q => S0 ≤ q) [(q2, .inl (D.1 10, N, .inl (upd (fun i9 => bI (dnB N be pz i9)) (arN N be pz) (bI true))))] := hD
          have hE := ho9.ex hE hfq2
          refine lv_aload_n hx hb dX4_isSame_141 rfl (lv_at hl 10 rfl) ?_
          refine lv_iload hx hb dX4_isSame_142 (lv_at hl 2 rfl) ?_
          refine RO_go (va_runV (As := [.int (nI pz)]) (rest := []) ⟨hx, hb, hml, hown, hts⟩ (k_order l pz hI9 (EX.P hE hC) (by omega)) (cwV 1 hts gX4_isSame_X3_order rfl rfl rfl (by decide +kernel) ⟨Nat.le_of_ble_eq_true rfl, Nat.le_of_ble_eq_true rfl⟩) (cP_V hK (va_recv hK.1 (AT.one (EX.at hE (hC 0 _ rfl))) (ci := 3) (q0 := 0) rfl rfl)) rfl rfl hl.1 rfl (lv_room (Nat.le_of_ble_eq_true rfl)) dX4_isSame_144 ⟨by show _ ≤ 280; omega, by show _ ≤ 3500; omega⟩) ?_
          refine lv_iload hx hb dX4_isSame_147 (lv_at hl 1 rfl) ?_
          refine lv_icmp_eq (tgt := 154) hx hb dX4_isSame_149 (by decide) (fun _ => ?_) (fun h9 => absurd (hI9.O pz (by omega)) h9)
          refine lv_iinc (v := nI (pz + 1)) (x := nI pz) (lv' := [(8, .int (nI (pz + 1))), (10, .int (-1)), (9, .int (nI (arN N be pz))), (7, .ref q2), (6, .int 0), (5, .int 0), (4, .int 0), (3, .int 0), (2, .int 0), (0, .ref a), (1, .ref (ad 0))]) hx hb dX4_isSame_154 hl (k := 2) rfl (nI_1 pz) (by decide) rfl (fun ls hl => ?_)
          refine lv_goto (tgt := 29) hx hb dX4_isSame_157 (by decide) ?_
          have ew101 : (upd (fun i9 => bI (dnB N be pz i9)) (arN N be pz) (bI true) : Nat → Int32) = (fun i9 => bI (dnB N be (pz + 1) i9)) := dn_st
          have hD : va_D (fun q => S0 ≤ q) [(q2, .inl (D.1 10, N, .inl (fun i9 => bI (dnB N be (pz + 1) i9))))] := by rw [← ew101]; exact hD.sub [0] (by decide) rfl
          have hP : va_P D vwCl [(q2, .inl (D.1 10, N, .inl (fun i9 => bI (dnB N be (pz + 1) i9))))] H99 := by rw [← ew101]; exact hP.sub [0] rfl
          exact ih29 (pz + 1)  (by omega) (by omega)  _ _ hP hD hS hE  _ (lv_sub hl [0, 3, 4, 5, 6, 7, 8, 9, 10] rfl)
