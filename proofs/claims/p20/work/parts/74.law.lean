/-! the law, from where its shells stand -/
theorem WX_AA {cA : ClassId} {ad : Nat → Nat} {N : Nat} {al be to od ph mn : Nat → Int32} {bu : Int32} {fi la : Nat → Int32} {tb : Int32} {tf tl : Nat → Int32} {A : Nat → Prop} (hD : va_D A (WX cA ad N al be to od ph mn bu fi la tb tf tl)) : ∀ k, k < 15 → A (ad k) := fun k hk => by
  rcases (show k = 0 ∨ k = 1 ∨ k = 2 ∨ k = 3 ∨ k = 4 ∨ k = 5 ∨ k = 6 ∨ k = 7 ∨ k = 8 ∨ k = 9 ∨ k = 10 ∨ k = 11 ∨ k = 12 ∨ k = 13 ∨ k = 14 by omega) with rfl | rfl | rfl | rfl | rfl | rfl | rfl | rfl | rfl | rfl | rfl | rfl | rfl | rfl | rfl
  · exact hD.2 0 _ rfl
  · exact hD.2 1 _ rfl
  · exact hD.2 2 _ rfl
  · exact hD.2 3 _ rfl
  · exact hD.2 4 _ rfl
  · exact hD.2 5 _ rfl
  · exact hD.2 6 _ rfl
  · exact hD.2 7 _ rfl
  · exact hD.2 8 _ rfl
  · exact hD.2 9 _ rfl
  · exact hD.2 10 _ rfl
  · exact hD.2 11 _ rfl
  · exact hD.2 12 _ rfl
  · exact hD.2 13 _ rfl
  · exact hD.2 14 _ rfl
set_option maxHeartbeats 8000000 in
set_option maxRecDepth 100000 in
theorem law_main {p : Program} {e : Env} {s : State} {m : MethodId} {below : List Frame} {meth : Method} {c : Code} (l : Launch) {b L : Nat} {xs : Nat → Int32} (hL : L ≤ 260) (C0 : lw_At p s m meth c b L xs) {D : va_G} {cA : ClassId} (hK : KK D cA s) {S0 : Nat} (hS0 : S0 = s.heap.size) {ad : Nat → Nat} {H0 : Heap} {locs : List Loc} (hC : va_P D vwCl (WX cA ad 0 (fun _ => 0) (fun _ => 0) (fun _ => 0) (fun _ => 0) (fun _ => 0) (fun _ => 0) 0 (cpF (fun _ => 0) (fun _ => 0) 14) (cpF (fun _ => 0) (fun _ => 9999) 14) 0 (cpF (fun _ => 0) (fun _ => 0) 14) (cpF (fun _ => 0) (fun _ => 9999) 14)) H0) (hDA : va_D (fun q => S0 ≤ q) (WX cA ad 0 (fun _ => 0) (fun _ => 0) (fun _ => 0) (fun _ => 0) (fun _ => 0) (fun _ => 0) 0 (cpF (fun _ => 0) (fun _ => 0) 14) (cpF (fun _ => 0) (fun _ => 9999) 14) 0 (cpF (fun _ => 0) (fun _ => 0) 14) (cpF (fun _ => 0) (fun _ => 9999) 14))) (hS : va_S (fun q => S0 ≤ q) s.heap H0 locs) {ls : Array Slot} (hl : lv_has ls 18 [(1, .ref (ad 0)), (0, .ref b)]) : W p l e room_1 s m #[Value.ref b] below meth c H0 locs 15 199 (lw_Z below #[Value.ref b] s) (F0 m 8 ls []) := by
  obtain ⟨hx, hb, hr, hml, hown, hts1, hSX, hbl, hlocks, hgv⟩ := C0
  have hb : c.code = cL_law := hb
  have hts : ∀ w ∈ wsL_law, w.before #[Value.ref b] s = true := fun w h => hts1 w (wsL_law_in w h)
  have hown : s.vm.findClass RL = some m.cls := hown
  have hinX4 := inlX4
  have hlo : ∀ k, k < 15 → S0 ≤ ad k ∧ ad k < H0.size := fun k hk => ⟨WX_AA hDA k hk, WX_lt hC k hk⟩
  have hDc := hDA.weaken (B := fun _ => True) (fun _ _ _ _ => trivial)
  have hbS : b < S0 := by omega
  have hzS : S0 ≤ H0.size := by have h7 := hS.1; omega
  have hXS : ∀ (H : Heap) (locs : List Loc), va_S (fun q => S0 ≤ q) s.heap H locs → va_X b L xs s H := fun H locs h => X_S hSX h hbS (by omega)
  refine lv_aload_n hx hb dL_law_8 rfl (lv_at hl 0 rfl) ?_
  refine lv_aload_n hx hb dL_law_9 rfl (lv_at hl 1 rfl) ?_
  refine LQ_go (va_runS (As := [.ref (ad 0), .ref b]) (rest := []) ⟨hx, hb, hml, hown, hts⟩ (c_L_build l (D := D) (cA := cA) (S0 := S0) (L := L) (xs := xs) PU_0 hC hDc hlo hbS hzS hL) (va_cwS 2 hts gL_law_L_build rfl rfl rfl (by decide +kernel) ⟨Nat.le_of_ble_eq_true rfl, Nat.le_of_ble_eq_true rfl⟩) (cPs_S hK (hXS _ _ hS)) rfl rfl hl.1 rfl (lv_room (Nat.le_of_ble_eq_true rfl)) dL_law_10 ⟨by show _ ≤ 600130; omega, by show _ ≤ 7301080; omega⟩) hS (fun q h => h) (fun v9 H1 locs hp9 hk9 hS => ?_)
  obtain ⟨a, rfl, hV⟩ := hp9
  refine W.eq (g2 := F0 m 13 ls [.ref a]) rfl ?_
  refine lv_astore_n (lv' := [(2, .ref a), (1, .ref (ad 0)), (0, .ref b)]) hx hb dL_law_13 rfl hl (by decide) rfl (fun ls hl => ?_)
  refine lv_aload_n hx hb dL_law_14 rfl (lv_at hl 0 rfl) ?_
  refine lv_ifnonnull (tgt := 20) hx hb dL_law_15 (by decide) ?_
  refine lv_iconst (v := 0) hx hb dL_law_20 (by decide) ?_
  refine lv_istore_n (lv' := [(3, .int 0), (2, .ref a), (1, .ref (ad 0)), (0, .ref b)]) hx hb dL_law_21 rfl hl (by decide) rfl (fun ls hl => ?_)
  suffices lp22 : ∀ n i8 : Nat, i8 ≤ 12 → 12 < i8 + n → ∀ (H : Heap) (locs : List Loc), LX D cA S0 ad a (24 + 2 * i8) H → va_S (fun q => S0 ≤ q) s.heap H locs → ∀ ls, lv_has ls 18 [(3, .int (nI i8)), (2, .ref a), (1, .ref (ad 0)), (0, .ref b)] → W p l e room_1 s m #[Value.ref b] below meth c H locs (15 + 1500 + i8 * 200) (199 + 22000 + i8 * 2300) (lw_Z below #[Value.ref b] s) (F0 m 22 ls []) from W.widen (by omega) (by omega) (lp22 (12 + 1) 0 (by omega) (by omega) H1 _ hV hS _ (lv_sub hl [0, 1, 2, 3] rfl))
  intro n
  induction n with
  | zero => intro i8 hk1 hk2; exact absurd hk2 (by omega)
  | succ n ih22 =>
    intro i8 hk22 hn22 H2 locs hV hS ls hl
    refine lv_iload_n hx hb dL_law_22 rfl (lv_at hl 0 rfl) ?_
    refine lv_bipush (v := 12) hx hb dL_law_23 (by decide) ?_
    refine my_geN (x := i8) (y := 12) (tgt := 962) hx hb dL_law_25 (by decide) (by omega) (by omega) (fun h1 => ?_) (fun h1 => ?_)
    · obtain rfl : i8 = 12 := by omega
      have hVa := hV
      obtain ⟨N, hN0, al, be, to, od, ph, mn, bu, fi, la, tb, tf, tl, fr, tt, mA, ax, ay, mS, sx, sy, ab, sm, fo, ho, rfi, rhe, rab, rsm, v5, v6, ro, hU, hC, hD, hO, hB, hro⟩ := hVa
      refine lv_aload_n hx hb dL_law_962 rfl (lv_at hl 1 rfl) ?_
      refine lv_aload_n hx hb dL_law_963 rfl (lv_at hl 2 rfl) ?_
      refine LQ_go (va_runV (As := [.ref (ad 0)]) (rest := []) ⟨hx, hb, hml, hown, hts⟩ (c_X4_isSame l (D := D) (cA := cA) (H0 := H2) hV (by omega)) (cwV 1 hts gL_law_X4_isSame rfl rfl rfl (by decide +kernel) ⟨Nat.le_of_ble_eq_true rfl, Nat.le_of_ble_eq_true rfl⟩) (cP_V hK (va_recv hK.1 (AT.one hO) (ci := 4) (q0 := 0) rfl rfl)) rfl rfl hl.1 rfl (lv_room (Nat.le_of_ble_eq_true rfl)) dL_law_964 ⟨by show _ ≤ 600130; omega, by show _ ≤ 7301080; omega⟩) hS (fun q h => h) (fun v9 H3 locs hp9 hk9 hS => ?_)
      obtain ⟨rfl, hV2⟩ := hp9
      refine W.eq (g2 := F0 m 967 ls [.int 1]) rfl ?_
      refine va_forget (fun q hq => by rw [← hS0]; exact hS.2.2 q hq) ?_
      refine W.widen (k := 600130) (n := 7301080) (by omega) (by omega) ?_
      refine W.base ?_
      exact lw_ret (d0 := s.drawn) (Drawn.sameBut.refl _ _) hx hb hr hlocks dL_law_967
    · refine lv_aload_n hx hb dL_law_28 rfl (lv_at hl 3 rfl) ?_
      refine lv_iload_n hx hb dL_law_29 rfl (lv_at hl 0 rfl) ?_
      have hX9 := hXS _ _ hS
      refine CE_go (a := ([.ref b, .int (nI i8)] : List Value).toArray) (va_runS (As := [.ref b, .int (nI i8)]) (rest := []) ⟨hx, hb, hml, hown, hts⟩ (c_L_cell l (D := D) (cA := cA) (L := L) (xs := xs) i8 (by omega) hL (Nat.lt_of_lt_of_le hbl hS.1)) (va_cwS 2 hts gL_law_L_cell rfl rfl rfl (by decide +kernel) ⟨Nat.le_of_ble_eq_true rfl, Nat.le_of_ble_eq_true rfl⟩) (cPs_S hK hX9) rfl rfl hl.1 rfl (lv_room (Nat.le_of_ble_eq_true rfl)) dL_law_30 ⟨by show _ ≤ 600130; omega, by show _ ≤ 7301080; omega⟩) (fun w30 => ?_)
      refine lv_sipush (v := 263) hx hb dL_law_33 (by decide) ?_
      refine lv_iload_n hx hb dL_law_36 rfl (lv_at hl 0 rfl) ?_
      refine my_imulN (x := 263) (y := i8) hx hb dL_law_37 ?_
      refine lv_iadd hx hb dL_law_38 ?_
      refine lv_istore (lv' := [(4, .int (w30 + (nI (263 * i8)))), (3, .int (nI i8)), (2, .ref a), (1, .ref (ad 0)), (0, .ref b)]) hx hb dL_law_39 hl (by decide) rfl (fun ls hl => ?_)
      refine lv_iconst (v := 0) hx hb dL_law_41 (by decide) ?_
      refine lv_istore (lv' := [(5, .int 0), (4, .int (w30 + (nI (263 * i8)))), (3, .int (nI i8)), (2, .ref a), (1, .ref (ad 0)), (0, .ref b)]) hx hb dL_law_42 hl (by decide) rfl (fun ls hl => ?_)
      suffices lp44 : ∀ n j8 : Nat, j8 ≤ 2 → 2 < j8 + n → ∀ (H : Heap) (locs : List Loc), LX D cA S0 ad a (24 + 2 * i8 + j8) H → va_S (fun q => S0 ≤ q) s.heap H locs → ∀ ls, lv_has ls 18 [(5, .int (nI j8)), (4, .int (w30 + (nI (263 * i8)))), (3, .int (nI i8)), (2, .ref a), (1, .ref (ad 0)), (0, .ref b)] → W p l e room_1 s m #[Value.ref b] below meth c H locs (15 + 1500 + i8 * 200 + j8 * 60) (199 + 22000 + i8 * 2300 + j8 * 900) (lw_Z below #[Value.ref b] s) (F0 m 44 ls []) from W.widen (by omega) (by omega) (lp44 (2 + 1) 0 (by omega) (by omega) H2 _ hV hS _ (lv_sub hl [0, 1, 2, 3, 4, 5] rfl))
      intro n
      induction n with
      | zero => intro j8 hk1 hk2; exact absurd hk2 (by omega)
      | succ n ih44 =>
        intro j8 hk44 hn44 H4 locs hV hS ls hl
        refine lv_iload hx hb dL_law_44 (lv_at hl 0 rfl) ?_
        refine lv_iconst (v := 2) hx hb dL_law_46 (by decide) ?_
        refine my_geN (x := j8) (y := 2) (tgt := 80) hx hb dL_law_47 (by decide) (by omega) (by omega) (fun h2 => ?_) (fun h2 => ?_)
        · obtain rfl : j8 = 2 := by omega
          obtain ⟨N, hN0, al, be, to, od, ph, mn, bu, fi, la, tb, tf, tl, fr, tt, mA, ax, ay, mS, sx, sy, ab, sm, fo, ho, rfi, rhe, rab, rsm, v5, v6, ro, hU, hC, hD, hO, hB, hro⟩ := hV
          have hN12 := hU.2.1
          have hmm := hU.2.2.2.2.2
          have hmS : mS ≤ 200 := by omega
          have hmA : mA ≤ 200 := by omega
          have hI9 := hU.1
          have hI := hI9.R
          have hN : N ≤ 14 := by omega
          have hDc := hD
          have hz : S0 ≤ H4.size := by have h7 := hS.1; omega
          refine lv_aload_n hx hb dL_law_80 rfl (lv_at hl 4 rfl) ?_
          refine lv_iconst (v := 0) hx hb dL_law_81 (by decide) ?_
          refine RO_go (va_runV (As := [.int 0]) (rest := []) ⟨hx, hb, hml, hown, hts⟩ (k_count l 0 hI9 hC (by omega)) (cwV 1 hts gL_law_X3_count rfl rfl rfl (by decide +kernel) ⟨Nat.le_of_ble_eq_true rfl, Nat.le_of_ble_eq_true rfl⟩) (cP_V hK (va_recv hK.1 (AT.one (hC 0 _ rfl)) (ci := 3) (q0 := 0) rfl rfl)) rfl rfl hl.1 rfl (lv_room (Nat.le_of_ble_eq_true rfl)) dL_law_82 ⟨by show _ ≤ 600130; omega, by show _ ≤ 7301080; omega⟩) ?_
          refine W.eq (g2 := F0 m 85 ls [.int (nI N)]) rfl ?_
          refine lv_istore (lv' := [(5, .int (nI N)), (4, .int (w30 + (nI (263 * i8)))), (3, .int (nI i8)), (2, .ref a), (1, .ref (ad 0)), (0, .ref b)]) hx hb dL_law_85 hl (by decide) rfl (fun ls hl => ?_)
          refine lv_aload_n hx hb dL_law_87 rfl (lv_at hl 3 rfl) ?_
          refine LQ_go (va_runV (As := []) (rest := []) ⟨hx, hb, hml, hown, hts⟩ (c_X4_reckon l (D := D) (cA := cA) (H0 := H4) (a := a) hU.2.1 hN0 hU.1.R hU.2.2.1 hU.2.2.2.1 hmS hmA hO hB.1 hB.2.1 (rne hro hro.2.2.2.1 (by decide)) (rne hro hro.2.2.2.2.1 (by decide)) (fun i hi => rne hro (hro.2.2.2.2.2.2.2.2.2.1 i hi) (by decide)) (fun i hi => rne hro (hro.2.2.2.2.2.2.2.2.2.2.1 i hi) (by decide))) (cwV 0 hts gL_law_X4_reckon rfl rfl rfl (by decide +kernel) ⟨Nat.le_of_ble_eq_true rfl, Nat.le_of_ble_eq_true rfl⟩) (cP_V hK (va_recv hK.1 (AT.one hO) (ci := 4) (q0 := 0) rfl rfl)) rfl rfl hl.1 rfl (lv_room (Nat.le_of_ble_eq_true rfl)) dL_law_88 ⟨by show _ ≤ 600130; omega, by show _ ≤ 7301080; omega⟩) hS (fun q h => Or.elim h (fun e9 => by rw [e9]; exact hro.S (by rw [hro.2.2.1]; decide)) (fun z => Nat.le_trans hz z)) (fun v9 H5 locs hp9 hk9 hS => ?_)
          obtain ⟨rfl, sa1, lb1, rsa1, rla1, hO9, hGs, hGl, hz1, hz2, hz3, hz4⟩ := hp9
          have hro9 := hro.new hC hO hB (fun _ => 9)
          have hk8 := hro.a1 (K := fun _ _ => True) hk9
          have hC : va_P D vwCl (WX cA ad N al be to od ph mn bu fi la tb tf tl) H5 := cls_kp hro hk8 (by decide) hC
          have hB : SB D cA H5 ab sm fo ho rfi rhe rab rsm mA ax ay mS sx sy mn fr tt := SB.kp hro hk8 (by decide) hB
          have hO : SO D H5 a N ab sm fo ho (.ref sa1) (.ref lb1) := hO9
          have hGs : GZ D H5 sa1 N rsa1 (fun i j => bt (al i) j) := hGs
          have hGl : GZ D H5 lb1 N rla1 (fun i j => bt (be i) j) := hGl
          have hz := Nat.le_trans hz hk9.1
          clear hro
          obtain ⟨ro, hro, hgr⟩ : ∃ ro : Nat → Nat, RR ro S0 ad a ab sm fo ho rfi rhe rab rsm mA mS ∧ GR ro sa1 lb1 N rsa1 rla1 := ⟨_, hro9, gr9_new hz1 hz2 hz3 hz4⟩
          refine W.eq (g2 := F0 m 91 ls [.ref a]) rfl ?_
          have hR := hB.sr hO hGs hGl
          have hE : EX H5 H5 := KP.rf
          have hP : va_P D vwCl [] H5 := fun k q h => by simp at h
          have hD : va_D (fun q => S0 ≤ q) [] := ⟨fun i j p q h => by simp at h, fun k q h => by simp at h⟩
          have hAz : ∀ (H : Heap) {q : Nat}, EX H5 H → q = H.size → S0 ≤ q := fun H q a b => by rw [b]; exact Nat.le_trans hz a.1
          refine lv_pop hx hb dL_law_91 rfl ?_
          refine lv_iconst (v := 0) hx hb dL_law_92 (by decide) ?_
          refine lv_istore (lv' := [(6, .int 0), (5, .int (nI N)), (4, .int (w30 + (nI (263 * i8)))), (3, .int (nI i8)), (2, .ref a), (1, .ref (ad 0)), (0, .ref b)]) hx hb dL_law_93 hl (by decide) rfl (fun ls hl => ?_)
          refine lv_iconst (v := 0) hx hb dL_law_95 (by decide) ?_
          refine lv_istore (lv' := [(7, .int 0), (6, .int 0), (5, .int (nI N)), (4, .int (w30 + (nI (263 * i8)))), (3, .int (nI i8)), (2, .ref a), (1, .ref (ad 0)), (0, .ref b)]) hx hb dL_law_96 hl (by decide) rfl (fun ls hl => ?_)
          refine lv_iconst (v := 0) hx hb dL_law_98 (by decide) ?_
          refine lv_istore (lv' := [(8, .int 0), (7, .int 0), (6, .int 0), (5, .int (nI N)), (4, .int (w30 + (nI (263 * i8)))), (3, .int (nI i8)), (2, .ref a), (1, .ref (ad 0)), (0, .ref b)]) hx hb dL_law_99 hl (by decide) rfl (fun ls hl => ?_)
          suffices lp101 : ∀ (n a9 : Nat) (y7 : Int32) (y6 : Int32), a9 ≤ N → N < a9 + n → y7 = nI (ct (bt bu) a9) → y6 = nI (ct (dbt al be to fi la) a9) → ∀ (H6 : Heap) (locs : List Loc), va_P D vwCl [] H6 → va_D (fun q => S0 ≤ q) [] → va_S (fun q => S0 ≤ q) s.heap H6 locs → EX H5 H6 → ∀ ls, lv_has ls 18 [(8, .int (nI a9)), (7, .int y7), (6, .int y6), (5, .int (nI N)), (4, .int (w30 + (nI (263 * i8)))), (3, .int (nI i8)), (2, .ref a), (1, .ref (ad 0)), (0, .ref b)] → W p l e room_1 s m #[Value.ref b] below meth c H6 locs ((15 + 1500 + i8 * 200 + 2 * 60 + 26) + a9 * 2) ((199 + 22000 + i8 * 2300 + 2 * 900 + 312) + a9 * 8) (lw_Z below #[Value.ref b] s) (F0 m 101 ls []) from W.widen (by omega) (by omega) (lp101 (N + 1) 0 0 0 (by omega) (by omega) (by first | rfl | (simp []; done) | decide) (by first | rfl | (simp []; done) | decide) _ _ hP hD hS hE  _ (lv_sub hl [0, 1, 2, 3, 4, 5, 6, 7, 8] rfl))
          intro n
          induction n with
          | zero => intro a9 y7 y6 hk1 hk2; exact absurd hk2 (by omega)
          | succ n ih101 =>
            intro a9 y7 y6 hk101 hn101 ey7 ey6  H6 locs hP hD hS hE  ls hl
            subst ey7
            subst ey6
            refine lv_iload hx hb dL_law_101 (lv_at hl 0 rfl) ?_
            refine lv_iload hx hb dL_law_103 (lv_at hl 3 rfl) ?_
            refine my_geN (x := a9) (y := N) (tgt := 727) hx hb dL_law_105 (by decide) (by omega) (by omega) (fun h7 => ?_) (fun h7 => ?_)
            · obtain rfl : N = a9 := by omega
              have hC : va_P D vwCl (WX cA ad N al be to od ph mn bu fi la tb tf tl) H6 := EX.P hE hC
              have hO : SO D H6 a N ab sm fo ho (.ref sa1) (.ref lb1) := EX.at hE hO
              have hB : SB D cA H6 ab sm fo ho rfi rhe rab rsm mA ax ay mS sx sy mn fr tt := hB.ex hE
              have hD : va_D (fun _ => True) (WX cA ad N al be to od ph mn bu fi la tb tf tl) := hDc
              have hz : S0 ≤ H6.size := Nat.le_trans hz hE.1
              clear hE hP hAz hR hGs hGl hgr
              refine lv_aload_n hx hb dL_law_727 rfl (lv_at hl 7 rfl) ?_
              refine lv_iconst (v := 2) hx hb dL_law_728 (by decide) ?_
              refine RO_go (va_runV (As := [.int 2]) (rest := []) ⟨hx, hb, hml, hown, hts⟩ (k_count l 2 hI9 hC (by omega)) (cwV 1 hts gL_law_X3_count rfl rfl rfl (by decide +kernel) ⟨Nat.le_of_ble_eq_true rfl, Nat.le_of_ble_eq_true rfl⟩) (cP_V hK (va_recv hK.1 (AT.one (hC 0 _ rfl)) (ci := 3) (q0 := 0) rfl rfl)) rfl rfl hl.1 rfl (lv_room (Nat.le_of_ble_eq_true rfl)) dL_law_729 ⟨by show _ ≤ 600130; omega, by show _ ≤ 7301080; omega⟩) ?_
              refine lv_iload hx hb dL_law_732 (lv_at hl 2 rfl) ?_
              refine lv_icmp_ne (tgt := 747) hx hb dL_law_734 (by decide) (fun h9 => absurd rfl h9) (fun _ => ?_)
              refine lv_aload_n hx hb dL_law_737 rfl (lv_at hl 7 rfl) ?_
              refine lv_iconst (v := 3) hx hb dL_law_738 (by decide) ?_
              refine RO_go (va_runV (As := [.int 3]) (rest := []) ⟨hx, hb, hml, hown, hts⟩ (k_count l 3 hI9 hC (by omega)) (cwV 1 hts gL_law_X3_count rfl rfl rfl (by decide +kernel) ⟨Nat.le_of_ble_eq_true rfl, Nat.le_of_ble_eq_true rfl⟩) (cP_V hK (va_recv hK.1 (AT.one (hC 0 _ rfl)) (ci := 3) (q0 := 0) rfl rfl)) rfl rfl hl.1 rfl (lv_room (Nat.le_of_ble_eq_true rfl)) dL_law_739 ⟨by show _ ≤ 600130; omega, by show _ ≤ 7301080; omega⟩) ?_
              refine lv_iload hx hb dL_law_742 (lv_at hl 1 rfl) ?_
              refine lv_icmp_eq (tgt := 749) hx hb dL_law_744 (by decide) (fun _ => ?_) (fun h9 => absurd (show couV N al be to ph mn bu fi la 3 = nI (ct (bt bu) N) from lw_c3 hI9) h9)
              refine lv_aload_n hx hb dL_law_749 rfl (lv_at hl 7 rfl) ?_
              refine RQL_go (va_runV (As := []) (rest := []) ⟨hx, hb, hml, hown, hts⟩ (k_blame l hI9 hC hD) (cwV 0 hts gL_law_X3_blame rfl rfl rfl (by decide +kernel) ⟨Nat.le_of_ble_eq_true rfl, Nat.le_of_ble_eq_true rfl⟩) (cP_V hK (va_recv hK.1 (AT.one (hC 0 _ rfl)) (ci := 3) (q0 := 0) rfl rfl)) rfl rfl hl.1 rfl (lv_room (Nat.le_of_ble_eq_true rfl)) dL_law_750 ⟨by show _ ≤ 600130; omega, by show _ ≤ 7301080; omega⟩) hS (hro.clsA hz) (fun v9 W9 H10 locs hp9 hC9 hD9 hk9 hS => ?_)
              obtain ⟨rfl, tb9, tf9, tl9, rfl⟩ := hp9
              have hk9 := hro.cls hk9
              have hO : SO D H10 a N ab sm fo ho (.ref sa1) (.ref lb1) := KP.at hk9 hO (fun z => absurd (hro.2.2.1.symm.trans z) (by decide))
              have hB : SB D cA H10 ab sm fo ho rfi rhe rab rsm mA ax ay mS sx sy mn fr tt := SB.kp hro hk9 (by decide) hB
              have hz : S0 ≤ H10.size := Nat.le_trans hz hk9.1
              have hC : va_P D vwCl (WX cA ad N al be to od ph mn bu fi la tb9 tf9 tl9) H10 := hC9
              have hD : va_D (fun _ => True) (WX cA ad N al be to od ph mn bu fi la tb9 tf9 tl9) := hD9.weaken (fun _ _ _ _ => trivial)
              refine W.eq (g2 := F0 m 753 ls [.int (blB N al be to fi la N)]) rfl ?_
              rcases lw_bl hI9 with hb1 | ⟨jb, hjb, hb1, hdj, hct, hbl1, hbl2, hbl3⟩
              · rw [hb1]
                refine lv_istore (lv' := [(8, .int (-1)), (7, .int (nI (ct (bt bu) N))), (6, .int (nI (ct (dbt al be to fi la) N))), (5, .int (nI N)), (4, .int (w30 + (nI (263 * i8)))), (3, .int (nI i8)), (2, .ref a), (1, .ref (ad 0)), (0, .ref b)]) hx hb dL_law_753 hl (by decide) rfl (fun ls hl => ?_)
                refine lv_iload hx hb dL_law_755 (lv_at hl 0 rfl) ?_
                refine lv_if_lt (tgt := 764) hx hb dL_law_757 (by decide) (fun _ => ?_) (fun h => absurd (by decide) h)
                refine lv_iconst (v := 0) hx hb dL_law_764 (by decide) ?_
                refine lv_iload hx hb dL_law_765 (lv_at hl 2 rfl) ?_
                refine lv_if_le (tgt := 774) hx hb dL_law_767 (by decide) (fun h12 => ?_) (fun h12 => ?_)
                · refine lv_iconst (v := 0) hx hb dL_law_774 (by decide) ?_
                  refine my_eqN (x := 0) (y := 0) (tgt := 785) hx hb dL_law_775 (by decide) (by omega) (by omega) (fun h13 => ?_) (fun h13 => ?_)
                  · refine lv_iload hx hb dL_law_785 (lv_at hl 0 rfl) ?_
                    refine lv_if_lt (tgt := 956) hx hb dL_law_787 (by decide) (fun _ => ?_) (fun h => absurd (by decide) h)
                    have hV2 : LX D cA S0 ad a (24 + 2 * (i8 + 1)) H10 := ⟨N, hN0, LV.mk (hU.up (by omega)) hC hD hO hB hro⟩
                    refine lv_iinc (v := nI (i8 + 1)) (x := nI i8) (lv' := [(3, .int (nI (i8 + 1))), (8, .int (-1)), (7, .int (nI (ct (bt bu) N))), (6, .int (nI (ct (dbt al be to fi la) N))), (5, .int (nI N)), (4, .int (w30 + (nI (263 * i8)))), (2, .ref a), (1, .ref (ad 0)), (0, .ref b)]) hx hb dL_law_956 hl (k := 5) rfl (nI_1 i8) (by decide) rfl (fun ls hl => ?_)
                    refine lv_goto (tgt := 22) hx hb dL_law_959 (by decide) ?_
                    exact W.widen (by omega) (by omega) (ih22 (i8 + 1) (by omega) (by omega) _ _ hV2 hS _ (lv_sub hl [0, 6, 7, 8] rfl))
                  · refine lv_iload hx hb dL_law_778 (lv_at hl 0 rfl) ?_
                    refine lv_if_lt (tgt := 785) hx hb dL_law_780 (by decide) (fun _ => ?_) (fun h => absurd (by decide) h)
                    refine lv_iload hx hb dL_law_785 (lv_at hl 0 rfl) ?_
                    refine lv_if_lt (tgt := 956) hx hb dL_law_787 (by decide) (fun _ => ?_) (fun h => absurd (by decide) h)
                    have hV2 : LX D cA S0 ad a (24 + 2 * (i8 + 1)) H10 := ⟨N, hN0, LV.mk (hU.up (by omega)) hC hD hO hB hro⟩
                    refine lv_iinc (v := nI (i8 + 1)) (x := nI i8) (lv' := [(3, .int (nI (i8 + 1))), (8, .int (-1)), (7, .int (nI (ct (bt bu) N))), (6, .int (nI (ct (dbt al be to fi la) N))), (5, .int (nI N)), (4, .int (w30 + (nI (263 * i8)))), (2, .ref a), (1, .ref (ad 0)), (0, .ref b)]) hx hb dL_law_956 hl (k := 5) rfl (nI_1 i8) (by decide) rfl (fun ls hl => ?_)
                    refine lv_goto (tgt := 22) hx hb dL_law_959 (by decide) ?_
                    exact W.widen (by omega) (by omega) (ih22 (i8 + 1) (by omega) (by omega) _ _ hV2 hS _ (lv_sub hl [0, 6, 7, 8] rfl))
                · refine lv_iconst (v := 1) hx hb dL_law_770 (by decide) ?_
                  refine lv_goto (tgt := 775) hx hb dL_law_771 (by decide) ?_
                  refine my_eqN (x := 0) (y := 1) (tgt := 785) hx hb dL_law_775 (by decide) (by omega) (by omega) (fun h17 => ?_) (fun h17 => ?_)
                  · refine lv_iload hx hb dL_law_785 (lv_at hl 0 rfl) ?_
                    refine lv_if_lt (tgt := 956) hx hb dL_law_787 (by decide) (fun _ => ?_) (fun h => absurd (by decide) h)
                    have hV2 : LX D cA S0 ad a (24 + 2 * (i8 + 1)) H10 := ⟨N, hN0, LV.mk (hU.up (by omega)) hC hD hO hB hro⟩
                    refine lv_iinc (v := nI (i8 + 1)) (x := nI i8) (lv' := [(3, .int (nI (i8 + 1))), (8, .int (-1)), (7, .int (nI (ct (bt bu) N))), (6, .int (nI (ct (dbt al be to fi la) N))), (5, .int (nI N)), (4, .int (w30 + (nI (263 * i8)))), (2, .ref a), (1, .ref (ad 0)), (0, .ref b)]) hx hb dL_law_956 hl (k := 5) rfl (nI_1 i8) (by decide) rfl (fun ls hl => ?_)
                    refine lv_goto (tgt := 22) hx hb dL_law_959 (by decide) ?_
                    exact W.widen (by omega) (by omega) (ih22 (i8 + 1) (by omega) (by omega) _ _ hV2 hS _ (lv_sub hl [0, 6, 7, 8] rfl))
                  · refine lv_iload hx hb dL_law_778 (lv_at hl 0 rfl) ?_
                    refine lv_if_lt (tgt := 785) hx hb dL_law_780 (by decide) (fun _ => ?_) (fun h => absurd (by decide) h)
                    refine lv_iload hx hb dL_law_785 (lv_at hl 0 rfl) ?_
                    refine lv_if_lt (tgt := 956) hx hb dL_law_787 (by decide) (fun _ => ?_) (fun h => absurd (by decide) h)
                    have hV2 : LX D cA S0 ad a (24 + 2 * (i8 + 1)) H10 := ⟨N, hN0, LV.mk (hU.up (by omega)) hC hD hO hB hro⟩
                    refine lv_iinc (v := nI (i8 + 1)) (x := nI i8) (lv' := [(3, .int (nI (i8 + 1))), (8, .int (-1)), (7, .int (nI (ct (bt bu) N))), (6, .int (nI (ct (dbt al be to fi la) N))), (5, .int (nI N)), (4, .int (w30 + (nI (263 * i8)))), (2, .ref a), (1, .ref (ad 0)), (0, .ref b)]) hx hb dL_law_956 hl (k := 5) rfl (nI_1 i8) (by decide) rfl (fun ls hl => ?_)
                    refine lv_goto (tgt := 22) hx hb dL_law_959 (by decide) ?_
                    exact W.widen (by omega) (by omega) (ih22 (i8 + 1) (by omega) (by omega) _ _ hV2 hS _ (lv_sub hl [0, 6, 7, 8] rfl))
              · rw [hb1]
                refine lv_istore (lv' := [(8, .int (nI jb)), (7, .int (nI (ct (bt bu) N))), (6, .int (nI (ct (dbt al be to fi la) N))), (5, .int (nI N)), (4, .int (w30 + (nI (263 * i8)))), (3, .int (nI i8)), (2, .ref a), (1, .ref (ad 0)), (0, .ref b)]) hx hb dL_law_753 hl (by decide) rfl (fun ls hl => ?_)
                refine lv_iload hx hb dL_law_755 (lv_at hl 0 rfl) ?_
                refine my_ltZ (x := jb) (tgt := 764) hx hb dL_law_757 (by decide) (by omega) ?_
                refine lv_iconst (v := 1) hx hb dL_law_760 (by decide) ?_
                refine lv_goto (tgt := 765) hx hb dL_law_761 (by decide) ?_
                refine lv_iload hx hb dL_law_765 (lv_at hl 2 rfl) ?_
                refine lv_if_le (tgt := 774) hx hb dL_law_767 (by decide) (fun h9 => absurd h9 (nI_nle hct (by have h7 := ct_le (dbt al be to fi la) N; omega))) (fun _ => ?_)
                refine lv_iconst (v := 1) hx hb dL_law_770 (by decide) ?_
                refine lv_goto (tgt := 775) hx hb dL_law_771 (by decide) ?_
                refine my_eqN (x := 1) (y := 1) (tgt := 785) hx hb dL_law_775 (by decide) (by omega) (by omega) (fun _ => ?_) (fun h9 => absurd rfl h9)
                refine lv_iload hx hb dL_law_785 (lv_at hl 0 rfl) ?_
                refine my_ltZ (x := jb) (tgt := 956) hx hb dL_law_787 (by decide) (by omega) ?_
                refine lv_aload_n hx hb dL_law_790 rfl (lv_at hl 6 rfl) ?_
                refine fa_get (D := D) (ci := 4) (v := .ref ho) (C := RX4) (T := TX4) (N := 7) hx hb hts hinX4 hown hK hO rfl 4 (by decide) (hts (.fieldLink RL 61 "CairnShellsLaw$Sim" "hearths" "[[I") (by decide +kernel)) (fun _ h9 => h9) rfl dL_law_791 ?_
                refine lv_iload hx hb dL_law_794 (lv_at hl 0 rfl) ?_
                refine fa_aald 2 hx hb hK rfl rfl hB.2.2.2.1 rfl (by omega) (by omega) dL_law_796 ?_
                refine lv_astore (lv' := [(9, .ref (rhe jb)), (8, .int (nI jb)), (7, .int (nI (ct (bt bu) N))), (6, .int (nI (ct (dbt al be to fi la) N))), (5, .int (nI N)), (4, .int (w30 + (nI (263 * i8)))), (3, .int (nI i8)), (2, .ref a), (1, .ref (ad 0)), (0, .ref b)]) hx hb dL_law_797 hl (by decide) rfl (fun ls hl => ?_)
                obtain ⟨f0, t0, ef, et, hf0, ht0, efi, ela⟩ := lw_ft hI9 hU.2.2.2.2.1.2 hjb hdj
                have hbu : bt bu jb = true := (lw_b8 hI9 hjb).trans hdj
                refine lv_aload_n hx hb dL_law_799 rfl (lv_at hl 8 rfl) ?_
                refine lv_iload hx hb dL_law_800 (lv_at hl 1 rfl) ?_
                refine WRL_go (va_runV (As := [.int (nI jb)]) (rest := []) ⟨hx, hb, hml, hown, hts⟩ (k_clear l jb hI9 hC hD hjb hbu) (cwV 1 hts gL_law_X3_clear rfl rfl rfl (by decide +kernel) ⟨Nat.le_of_ble_eq_true rfl, Nat.le_of_ble_eq_true rfl⟩) (cP_V hK (va_recv hK.1 (AT.one (hC 0 _ rfl)) (ci := 3) (q0 := 0) rfl rfl)) rfl rfl hl.1 rfl (lv_room (Nat.le_of_ble_eq_true rfl)) dL_law_802 ⟨by show _ ≤ 600130; omega, by show _ ≤ 7301080; omega⟩) hS (hro.clsA hz) (fun H25 locs hC9 hk9 hS => ?_)
                have hk9 := hro.cls hk9
                have hO : SO D H25 a N ab sm fo ho (.ref sa1) (.ref lb1) := KP.at hk9 hO (fun z => absurd (hro.2.2.1.symm.trans z) (by decide))
                have hB : SB D cA H25 ab sm fo ho rfi rhe rab rsm mA ax ay mS sx sy mn fr tt := SB.kp hro hk9 (by decide) hB
                have hz : S0 ≤ H25.size := Nat.le_trans hz hk9.1
                have hC : va_P D vwCl (WX cA ad N al be to od ph mn (bu &&& (((1 : Int32) <<< (nI jb &&& 31)) ^^^ (-1))) (upd fi jb 0) (upd la jb 9999) tb9 tf9 tl9) H25 := hC9
                have hD : va_D (fun _ => True) (WX cA ad N al be to od ph mn (bu &&& (((1 : Int32) <<< (nI jb &&& 31)) ^^^ (-1))) (upd fi jb 0) (upd la jb 9999) tb9 tf9 tl9) := hD.adr rfl
                refine W.eq (g2 := F0 m 805 ls [.int (fi jb)]) rfl ?_
                have hIc := IV_clear hI9 hjb
                refine lv_aload hx hb dL_law_805 (lv_at hl 0 rfl) ?_
                refine lv_iconst (v := 0) hx hb dL_law_807 (by decide) ?_
                refine fa_iald (D := D) (j := 0) hx hb hK (hB.2.2.2.2 jb (by omega)) (by omega) (by omega) dL_law_808 ?_
                refine W.eq (g2 := F0 m 809 ls [.int (fr jb), .int (fi jb)]) rfl ?_
                refine lv_icmp_ne (tgt := 822) hx hb dL_law_809 (by decide) (fun h9 => absurd (efi.trans ef.symm) h9) (fun _ => ?_)
                refine lv_aload_n hx hb dL_law_812 rfl (lv_at hl 8 rfl) ?_
                refine lv_iconst (v := 2) hx hb dL_law_813 (by decide) ?_
                refine RO_go (va_runV (As := [.int 2]) (rest := []) ⟨hx, hb, hml, hown, hts⟩ (k_count l 2 hIc hC (by omega)) (cwV 1 hts gL_law_X3_count rfl rfl rfl (by decide +kernel) ⟨Nat.le_of_ble_eq_true rfl, Nat.le_of_ble_eq_true rfl⟩) (cP_V hK (va_recv hK.1 (AT.one (hC 0 _ rfl)) (ci := 3) (q0 := 0) rfl rfl)) rfl rfl hl.1 rfl (lv_room (Nat.le_of_ble_eq_true rfl)) dL_law_814 ⟨by show _ ≤ 600130; omega, by show _ ≤ 7301080; omega⟩) ?_
                refine lv_iload hx hb dL_law_817 (lv_at hl 3 rfl) ?_
                refine lv_icmp_lt (tgt := 824) hx hb dL_law_819 (by decide) (fun _ => ?_) (fun h9 => absurd hbl1 h9)
                refine lv_aload_n hx hb dL_law_824 rfl (lv_at hl 8 rfl) ?_
                refine lv_iconst (v := 2) hx hb dL_law_825 (by decide) ?_
                refine RO_go (va_runV (As := [.int 2]) (rest := []) ⟨hx, hb, hml, hown, hts⟩ (k_count l 2 hIc hC (by omega)) (cwV 1 hts gL_law_X3_count rfl rfl rfl (by decide +kernel) ⟨Nat.le_of_ble_eq_true rfl, Nat.le_of_ble_eq_true rfl⟩) (cP_V hK (va_recv hK.1 (AT.one (hC 0 _ rfl)) (ci := 3) (q0 := 0) rfl rfl)) rfl rfl hl.1 rfl (lv_room (Nat.le_of_ble_eq_true rfl)) dL_law_826 ⟨by show _ ≤ 600130; omega, by show _ ≤ 7301080; omega⟩) ?_
                refine lv_istore (lv' := [(10, .int (couV N al be to ph mn (bu &&& (((1 : Int32) <<< (nI jb &&& 31)) ^^^ (-1))) (upd fi jb 0) (upd la jb 9999) 2)), (9, .ref (rhe jb)), (8, .int (nI jb)), (7, .int (nI (ct (bt bu) N))), (6, .int (nI (ct (dbt al be to fi la) N))), (5, .int (nI N)), (4, .int (w30 + (nI (263 * i8)))), (3, .int (nI i8)), (2, .ref a), (1, .ref (ad 0)), (0, .ref b)]) hx hb dL_law_829 hl (by decide) rfl (fun ls hl => ?_)
                refine lv_aload_n hx hb dL_law_831 rfl (lv_at hl 9 rfl) ?_
                refine lv_iload hx hb dL_law_832 (lv_at hl 2 rfl) ?_
                refine lv_aload hx hb dL_law_834 (lv_at hl 1 rfl) ?_
                refine lv_iconst (v := 0) hx hb dL_law_836 (by decide) ?_
                refine fa_iald (D := D) (j := 0) hx hb hK (hB.2.2.2.2 jb (by omega)) (by omega) (by omega) dL_law_837 ?_
                refine W.eq (g2 := F0 m 838 ls [.int (fr jb), .int (nI jb), .ref (ad 0)]) rfl ?_
                refine lv_aload hx hb dL_law_838 (lv_at hl 1 rfl) ?_
                refine lv_iconst (v := 1) hx hb dL_law_840 (by decide) ?_
                refine fa_iald (D := D) (j := 1) hx hb hK (hB.2.2.2.2 jb (by omega)) (by omega) (by omega) dL_law_841 ?_
                refine W.eq (g2 := F0 m 842 ls [.int (tt jb), .int (fr jb), .int (nI jb), .ref (ad 0)]) rfl ?_
                rw [ef, et]
                refine WRL_go (va_runV (As := [.int (nI jb), .int (nI f0), .int (nI t0)]) (rest := []) ⟨hx, hb, hml, hown, hts⟩ (k_hearth l jb f0 t0 hIc hC hD hjb hf0 ht0) (cwV 3 hts gL_law_X3_hearth rfl rfl rfl (by decide +kernel) ⟨Nat.le_of_ble_eq_true rfl, Nat.le_of_ble_eq_true rfl⟩) (cP_V hK (va_recv hK.1 (AT.one (hC 0 _ rfl)) (ci := 3) (q0 := 0) rfl rfl)) rfl rfl hl.1 rfl (lv_room (Nat.le_of_ble_eq_true rfl)) dL_law_842 ⟨by show _ ≤ 600130; omega, by show _ ≤ 7301080; omega⟩) hS (hro.clsA hz) (fun H28 locs hC9 hk9 hS => ?_)
                have hk9 := hro.cls hk9
                have hO : SO D H28 a N ab sm fo ho (.ref sa1) (.ref lb1) := KP.at hk9 hO (fun z => absurd (hro.2.2.1.symm.trans z) (by decide))
                have hB : SB D cA H28 ab sm fo ho rfi rhe rab rsm mA ax ay mS sx sy mn fr tt := SB.kp hro hk9 (by decide) hB
                have hz : S0 ≤ H28.size := Nat.le_trans hz hk9.1
                have hC : va_P D vwCl (WX cA ad N al be to od ph mn ((bu &&& (((1 : Int32) <<< (nI jb &&& 31)) ^^^ (-1))) ||| ((1 : Int32) <<< (nI jb &&& 31))) (upd (upd fi jb 0) jb (nI f0)) (upd (upd la jb 9999) jb (nI t0)) tb9 tf9 tl9) H28 := hC9
                have hD : va_D (fun _ => True) (WX cA ad N al be to od ph mn ((bu &&& (((1 : Int32) <<< (nI jb &&& 31)) ^^^ (-1))) ||| ((1 : Int32) <<< (nI jb &&& 31))) (upd (upd fi jb 0) jb (nI f0)) (upd (upd la jb 9999) jb (nI t0)) tb9 tf9 tl9) := hD.adr rfl
                refine W.eq (g2 := F0 m 845 ls [.int (fY al be (upd (upd fi jb 0) jb (nI f0)) jb)]) rfl ?_
                rw [lw_bu hI9 hjb hdj, lw_fi efi, lw_fi ela] at hC hD
                refine lv_pop hx hb dL_law_845 rfl ?_
                refine lv_aload_n hx hb dL_law_846 rfl (lv_at hl 9 rfl) ?_
                refine lv_iconst (v := 2) hx hb dL_law_847 (by decide) ?_
                refine RO_go (va_runV (As := [.int 2]) (rest := []) ⟨hx, hb, hml, hown, hts⟩ (k_count l 2 hI9 hC (by omega)) (cwV 1 hts gL_law_X3_count rfl rfl rfl (by decide +kernel) ⟨Nat.le_of_ble_eq_true rfl, Nat.le_of_ble_eq_true rfl⟩) (cP_V hK (va_recv hK.1 (AT.one (hC 0 _ rfl)) (ci := 3) (q0 := 0) rfl rfl)) rfl rfl hl.1 rfl (lv_room (Nat.le_of_ble_eq_true rfl)) dL_law_848 ⟨by show _ ≤ 600130; omega, by show _ ≤ 7301080; omega⟩) ?_
                refine lv_iload hx hb dL_law_851 (lv_at hl 4 rfl) ?_
                refine lv_icmp_eq (tgt := 858) hx hb dL_law_853 (by decide) (fun _ => ?_) (fun h9 => absurd rfl h9)
                refine lv_iconst (v := 0) hx hb dL_law_858 (by decide) ?_
                refine lv_istore (lv' := [(11, .int 0), (10, .int (couV N al be to ph mn (bu &&& (((1 : Int32) <<< (nI jb &&& 31)) ^^^ (-1))) (upd fi jb 0) (upd la jb 9999) 2)), (9, .ref (rhe jb)), (8, .int (nI jb)), (7, .int (nI (ct (bt bu) N))), (6, .int (nI (ct (dbt al be to fi la) N))), (5, .int (nI N)), (4, .int (w30 + (nI (263 * i8)))), (3, .int (nI i8)), (2, .ref a), (1, .ref (ad 0)), (0, .ref b)]) hx hb dL_law_859 hl (by decide) rfl (fun ls hl => ?_)
                suffices lp861 : ∀ n c9 : Nat, c9 ≤ N → N < c9 + n → ∀ (H : Heap) (locs : List Loc), (va_P D vwCl (WX cA ad N al be to od ph mn bu fi la tb9 tf9 tl9) H) ∧ (SO D H a N ab sm fo ho (.ref sa1) (.ref lb1)) ∧ SB D cA H ab sm fo ho rfi rhe rab rsm mA ax ay mS sx sy mn fr tt → va_S (fun q => S0 ≤ q) s.heap H locs → ∀ ls, lv_has ls 18 [(11, .int (nI c9)), (10, .int (couV N al be to ph mn (bu &&& (((1 : Int32) <<< (nI jb &&& 31)) ^^^ (-1))) (upd fi jb 0) (upd la jb 9999) 2)), (8, .int (nI jb)), (6, .int (nI (ct (dbt al be to fi la) N))), (5, .int (nI N)), (3, .int (nI i8)), (2, .ref a), (1, .ref (ad 0)), (0, .ref b)] → W p l e room_1 s m #[Value.ref b] below meth c H locs ((15 + 1500 + i8 * 200 + 2 * 60 + 26) + N * 2 + 0 + 0 + 0) ((199 + 22000 + i8 * 2300 + 2 * 900 + 312) + N * 8 + 0 + 0 + 0) (lw_Z below #[Value.ref b] s) (F0 m 861 ls []) from lp861 (N + 1) 0 (by omega) (by omega) H28 _ ⟨hC, hO, hB⟩ hS _ (lv_sub hl [0, 1, 3, 5, 6, 8, 9, 10, 11] rfl)
                intro n
                induction n with
                | zero => intro c9 hk1 hk2; exact absurd hk2 (by omega)
                | succ n ih861 =>
                  intro c9 hk861 hn861 H30 locs hV hS ls hl
                  obtain ⟨hC, hO, hB⟩ := hV
                  have hz : S0 ≤ H30.size := by have h7 := hS.1; omega
                  refine lv_iload hx hb dL_law_861 (lv_at hl 0 rfl) ?_
                  refine lv_iload hx hb dL_law_863 (lv_at hl 4 rfl) ?_
                  refine my_geN (x := c9) (y := N) (tgt := 956) hx hb dL_law_865 (by decide) (by omega) (by omega) (fun h3 => ?_) (fun h3 => ?_)
                  · have hV2 : LX D cA S0 ad a (24 + 2 * (i8 + 1)) H30 := ⟨N, hN0, LV.mk (hU.up (by omega)) hC hD hO hB hro⟩
                    refine lv_iinc (v := nI (i8 + 1)) (x := nI i8) (lv' := [(3, .int (nI (i8 + 1))), (11, .int (nI c9)), (10, .int (couV N al be to ph mn (bu &&& (((1 : Int32) <<< (nI jb &&& 31)) ^^^ (-1))) (upd fi jb 0) (upd la jb 9999) 2)), (8, .int (nI jb)), (6, .int (nI (ct (dbt al be to fi la) N))), (5, .int (nI N)), (2, .ref a), (1, .ref (ad 0)), (0, .ref b)]) hx hb dL_law_956 hl (k := 5) rfl (nI_1 i8) (by decide) rfl (fun ls hl => ?_)
                    refine lv_goto (tgt := 22) hx hb dL_law_959 (by decide) ?_
                    exact W.widen (by omega) (by omega) (ih22 (i8 + 1) (by omega) (by omega) _ _ hV2 hS _ (lv_sub hl [0, 6, 7, 8] rfl))
                  · refine lv_aload_n hx hb dL_law_868 rfl (lv_at hl 6 rfl) ?_
                    refine fa_get (D := D) (ci := 4) (v := .ref ho) (C := RX4) (T := TX4) (N := 7) hx hb hts hinX4 hown hK hO rfl 4 (by decide) (hts (.fieldLink RL 61 "CairnShellsLaw$Sim" "hearths" "[[I") (by decide +kernel)) (fun _ h9 => h9) rfl dL_law_869 ?_
                    refine lv_iload hx hb dL_law_872 (lv_at hl 0 rfl) ?_
                    refine fa_aald 2 hx hb hK rfl rfl hB.2.2.2.1 rfl (by omega) (by omega) dL_law_874 ?_
                    refine lv_astore (lv' := [(12, .ref (rhe c9)), (11, .int (nI c9)), (10, .int (couV N al be to ph mn (bu &&& (((1 : Int32) <<< (nI jb &&& 31)) ^^^ (-1))) (upd fi jb 0) (upd la jb 9999) 2)), (8, .int (nI jb)), (6, .int (nI (ct (dbt al be to fi la) N))), (5, .int (nI N)), (3, .int (nI i8)), (2, .ref a), (1, .ref (ad 0)), (0, .ref b)]) hx hb dL_law_875 hl (by decide) rfl (fun ls hl => ?_)
                    refine lv_aload hx hb dL_law_877 (lv_at hl 0 rfl) ?_
                    refine lv_iconst (v := 0) hx hb dL_law_879 (by decide) ?_
                    refine fa_iald (D := D) (j := 0) hx hb hK (hB.2.2.2.2 c9 (by omega)) (by omega) (by omega) dL_law_880 ?_
                    refine W.eq (g2 := F0 m 881 ls [.int (fr c9)]) rfl ?_
                    refine lv_if_ge (tgt := 887) hx hb dL_law_881 (by decide) (fun h31 => ?_) (fun h31 => ?_)
                    · have hc9 : c9 < N := by omega
                      have hdc : dtd fr c9 = true := hI9.dtd1 hc9 (fun q9 => (fa_of_lt q9).2.1 h31)
                      obtain ⟨f1, t1, ef1, et1, hf1, ht1, efi1, ela1⟩ := lw_ft hI9 hU.2.2.2.2.1.2 hc9 hdc
                      have hbu1 : bt bu c9 = true := (lw_b8 hI9 hc9).trans hdc
                      refine lv_aload_n hx hb dL_law_887 rfl (lv_at hl 8 rfl) ?_
                      refine lv_iload hx hb dL_law_888 (lv_at hl 1 rfl) ?_
                      refine WRL_go (va_runV (As := [.int (nI c9)]) (rest := []) ⟨hx, hb, hml, hown, hts⟩ (k_clear l c9 hI9 hC hD hc9 hbu1) (cwV 1 hts gL_law_X3_clear rfl rfl rfl (by decide +kernel) ⟨Nat.le_of_ble_eq_true rfl, Nat.le_of_ble_eq_true rfl⟩) (cP_V hK (va_recv hK.1 (AT.one (hC 0 _ rfl)) (ci := 3) (q0 := 0) rfl rfl)) rfl rfl hl.1 rfl (lv_room (Nat.le_of_ble_eq_true rfl)) dL_law_890 ⟨by show _ ≤ 600130; omega, by show _ ≤ 7301080; omega⟩) hS (hro.clsA hz) (fun H32 locs hC9 hk9 hS => ?_)
                      have hk9 := hro.cls hk9
                      have hO : SO D H32 a N ab sm fo ho (.ref sa1) (.ref lb1) := KP.at hk9 hO (fun z => absurd (hro.2.2.1.symm.trans z) (by decide))
                      have hB : SB D cA H32 ab sm fo ho rfi rhe rab rsm mA ax ay mS sx sy mn fr tt := SB.kp hro hk9 (by decide) hB
                      have hz : S0 ≤ H32.size := Nat.le_trans hz hk9.1
                      have hC : va_P D vwCl (WX cA ad N al be to od ph mn (bu &&& (((1 : Int32) <<< (nI c9 &&& 31)) ^^^ (-1))) (upd fi c9 0) (upd la c9 9999) tb9 tf9 tl9) H32 := hC9
                      have hD : va_D (fun _ => True) (WX cA ad N al be to od ph mn (bu &&& (((1 : Int32) <<< (nI c9 &&& 31)) ^^^ (-1))) (upd fi c9 0) (upd la c9 9999) tb9 tf9 tl9) := hD.adr rfl
                      refine W.eq (g2 := F0 m 893 ls [.int (fi c9)]) rfl ?_
                      have hId := IV_clear hI9 hc9
                      refine lv_pop hx hb dL_law_893 rfl ?_
                      suffices jn33 : ∀ ls, lv_has ls 18 [(12, .ref (rhe c9)), (11, .int (nI c9)), (10, .int (couV N al be to ph mn (bu &&& (((1 : Int32) <<< (nI jb &&& 31)) ^^^ (-1))) (upd fi jb 0) (upd la jb 9999) 2)), (8, .int (nI jb)), (6, .int (nI (ct (dbt al be to fi la) N))), (5, .int (nI N)), (3, .int (nI i8)), (2, .ref a), (1, .ref (ad 0)), (0, .ref b)] → W p l e room_1 s m #[Value.ref b] below meth c H32 locs ((15 + 1500 + i8 * 200 + 2 * 60 + 26) + N * 2 + 0 + 0 + 0 + 0) ((199 + 22000 + i8 * 2300 + 2 * 900 + 312) + N * 8 + 0 + 0 + 0 + 0) (lw_Z below #[Value.ref b] s) (F0 m 926 ls [.int 0]) by
                        refine lv_aload_n hx hb dL_law_894 rfl (lv_at hl 8 rfl) ?_
                        refine lv_iconst (v := 2) hx hb dL_law_895 (by decide) ?_
                        refine RO_go (va_runV (As := [.int 2]) (rest := []) ⟨hx, hb, hml, hown, hts⟩ (k_count l 2 hId hC (by omega)) (cwV 1 hts gL_law_X3_count rfl rfl rfl (by decide +kernel) ⟨Nat.le_of_ble_eq_true rfl, Nat.le_of_ble_eq_true rfl⟩) (cP_V hK (va_recv hK.1 (AT.one (hC 0 _ rfl)) (ci := 3) (q0 := 0) rfl rfl)) rfl rfl hl.1 rfl (lv_room (Nat.le_of_ble_eq_true rfl)) dL_law_896 ⟨by show _ ≤ 600130; omega, by show _ ≤ 7301080; omega⟩) ?_
                        refine lv_iload hx hb dL_law_899 (lv_at hl 2 rfl) ?_
                        refine lv_icmp_lt (tgt := 921) hx hb dL_law_901 (by decide) (fun h9 => absurd h9 (hbl2 c9 (by omega))) (fun _ => ?_)
                        refine lv_aload_n hx hb dL_law_904 rfl (lv_at hl 8 rfl) ?_
                        refine lv_iconst (v := 2) hx hb dL_law_905 (by decide) ?_
                        refine RO_go (va_runV (As := [.int 2]) (rest := []) ⟨hx, hb, hml, hown, hts⟩ (k_count l 2 hId hC (by omega)) (cwV 1 hts gL_law_X3_count rfl rfl rfl (by decide +kernel) ⟨Nat.le_of_ble_eq_true rfl, Nat.le_of_ble_eq_true rfl⟩) (cP_V hK (va_recv hK.1 (AT.one (hC 0 _ rfl)) (ci := 3) (q0 := 0) rfl rfl)) rfl rfl hl.1 rfl (lv_room (Nat.le_of_ble_eq_true rfl)) dL_law_906 ⟨by show _ ≤ 600130; omega, by show _ ≤ 7301080; omega⟩) ?_
                        refine lv_iload hx hb dL_law_909 (lv_at hl 2 rfl) ?_
                        refine lv_icmp_ne (tgt := 925) hx hb dL_law_911 (by decide) (fun h35 => ?_) (fun h35 => ?_)
                        · refine lv_iconst (v := 0) hx hb dL_law_925 (by decide) ?_
                          exact jn33 _ hl
                        · refine lv_iload hx hb dL_law_914 (lv_at hl 1 rfl) ?_
                          refine lv_iload hx hb dL_law_916 (lv_at hl 3 rfl) ?_
                          refine my_geN (x := c9) (y := jb) (tgt := 925) hx hb dL_law_918 (by decide) (by omega) (by omega) (fun _ => ?_) (fun h9 => absurd h35 (hbl3 c9 (by omega)))
                          refine lv_iconst (v := 0) hx hb dL_law_925 (by decide) ?_
                          exact jn33 _ hl
                      intro ls hl
                      refine lv_istore (lv' := [(13, .int 0), (12, .ref (rhe c9)), (11, .int (nI c9)), (10, .int (couV N al be to ph mn (bu &&& (((1 : Int32) <<< (nI jb &&& 31)) ^^^ (-1))) (upd fi jb 0) (upd la jb 9999) 2)), (8, .int (nI jb)), (6, .int (nI (ct (dbt al be to fi la) N))), (5, .int (nI N)), (3, .int (nI i8)), (2, .ref a), (1, .ref (ad 0)), (0, .ref b)]) hx hb dL_law_926 hl (by decide) rfl (fun ls hl => ?_)
                      refine lv_aload_n hx hb dL_law_928 rfl (lv_at hl 9 rfl) ?_
                      refine lv_iload hx hb dL_law_929 (lv_at hl 2 rfl) ?_
                      refine lv_aload hx hb dL_law_931 (lv_at hl 1 rfl) ?_
                      refine lv_iconst (v := 0) hx hb dL_law_933 (by decide) ?_
                      refine fa_iald (D := D) (j := 0) hx hb hK (hB.2.2.2.2 c9 (by omega)) (by omega) (by omega) dL_law_934 ?_
                      refine W.eq (g2 := F0 m 935 ls [.int (fr c9), .int (nI c9), .ref (ad 0)]) rfl ?_
                      refine lv_aload hx hb dL_law_935 (lv_at hl 1 rfl) ?_
                      refine lv_iconst (v := 1) hx hb dL_law_937 (by decide) ?_
                      refine fa_iald (D := D) (j := 1) hx hb hK (hB.2.2.2.2 c9 (by omega)) (by omega) (by omega) dL_law_938 ?_
                      refine W.eq (g2 := F0 m 939 ls [.int (tt c9), .int (fr c9), .int (nI c9), .ref (ad 0)]) rfl ?_
                      rw [ef1, et1]
                      refine WRL_go (va_runV (As := [.int (nI c9), .int (nI f1), .int (nI t1)]) (rest := []) ⟨hx, hb, hml, hown, hts⟩ (k_hearth l c9 f1 t1 hId hC hD hc9 hf1 ht1) (cwV 3 hts gL_law_X3_hearth rfl rfl rfl (by decide +kernel) ⟨Nat.le_of_ble_eq_true rfl, Nat.le_of_ble_eq_true rfl⟩) (cP_V hK (va_recv hK.1 (AT.one (hC 0 _ rfl)) (ci := 3) (q0 := 0) rfl rfl)) rfl rfl hl.1 rfl (lv_room (Nat.le_of_ble_eq_true rfl)) dL_law_939 ⟨by show _ ≤ 600130; omega, by show _ ≤ 7301080; omega⟩) hS (hro.clsA hz) (fun H37 locs hC9 hk9 hS => ?_)
                      have hk9 := hro.cls hk9
                      have hO : SO D H37 a N ab sm fo ho (.ref sa1) (.ref lb1) := KP.at hk9 hO (fun z => absurd (hro.2.2.1.symm.trans z) (by decide))
                      have hB : SB D cA H37 ab sm fo ho rfi rhe rab rsm mA ax ay mS sx sy mn fr tt := SB.kp hro hk9 (by decide) hB
                      have hz : S0 ≤ H37.size := Nat.le_trans hz hk9.1
                      have hC : va_P D vwCl (WX cA ad N al be to od ph mn ((bu &&& (((1 : Int32) <<< (nI c9 &&& 31)) ^^^ (-1))) ||| ((1 : Int32) <<< (nI c9 &&& 31))) (upd (upd fi c9 0) c9 (nI f1)) (upd (upd la c9 9999) c9 (nI t1)) tb9 tf9 tl9) H37 := hC9
                      have hD : va_D (fun _ => True) (WX cA ad N al be to od ph mn ((bu &&& (((1 : Int32) <<< (nI c9 &&& 31)) ^^^ (-1))) ||| ((1 : Int32) <<< (nI c9 &&& 31))) (upd (upd fi c9 0) c9 (nI f1)) (upd (upd la c9 9999) c9 (nI t1)) tb9 tf9 tl9) := hD.adr rfl
                      refine W.eq (g2 := F0 m 942 ls [.int (fY al be (upd (upd fi c9 0) c9 (nI f1)) c9)]) rfl ?_
                      rw [lw_bu hI9 hc9 hdc, lw_fi efi1, lw_fi ela1] at hC hD
                      refine lv_pop hx hb dL_law_942 rfl ?_
                      refine lv_iload hx hb dL_law_943 (lv_at hl 0 rfl) ?_
                      refine lv_if_eq (tgt := 950) hx hb dL_law_945 (by decide) (fun _ => ?_) (fun h => absurd (by decide) h)
                      refine lv_iinc (v := nI (c9 + 1)) (x := nI c9) (lv' := [(11, .int (nI (c9 + 1))), (13, .int 0), (12, .ref (rhe c9)), (10, .int (couV N al be to ph mn (bu &&& (((1 : Int32) <<< (nI jb &&& 31)) ^^^ (-1))) (upd fi jb 0) (upd la jb 9999) 2)), (8, .int (nI jb)), (6, .int (nI (ct (dbt al be to fi la) N))), (5, .int (nI N)), (3, .int (nI i8)), (2, .ref a), (1, .ref (ad 0)), (0, .ref b)]) hx hb dL_law_950 hl (k := 2) rfl (nI_1 c9) (by decide) rfl (fun ls hl => ?_)
                      refine lv_goto (tgt := 861) hx hb dL_law_953 (by decide) ?_
                      exact W.widen (by omega) (by omega) (ih861 (c9 + 1) (by omega) (by omega) _ _ ⟨hC, hO, hB⟩ hS _ (lv_sub hl [0, 3, 4, 5, 6, 7, 8, 9, 10] rfl))
                    · refine lv_goto (tgt := 950) hx hb dL_law_884 (by decide) ?_
                      refine lv_iinc (v := nI (c9 + 1)) (x := nI c9) (lv' := [(11, .int (nI (c9 + 1))), (12, .ref (rhe c9)), (10, .int (couV N al be to ph mn (bu &&& (((1 : Int32) <<< (nI jb &&& 31)) ^^^ (-1))) (upd fi jb 0) (upd la jb 9999) 2)), (8, .int (nI jb)), (6, .int (nI (ct (dbt al be to fi la) N))), (5, .int (nI N)), (3, .int (nI i8)), (2, .ref a), (1, .ref (ad 0)), (0, .ref b)]) hx hb dL_law_950 hl (k := 1) rfl (nI_1 c9) (by decide) rfl (fun ls hl => ?_)
                      refine lv_goto (tgt := 861) hx hb dL_law_953 (by decide) ?_
                      exact W.widen (by omega) (by omega) (ih861 (c9 + 1) (by omega) (by omega) _ _ ⟨hC, hO, hB⟩ hS _ (lv_sub hl [0, 2, 3, 4, 5, 6, 7, 8, 9] rfl))
            · refine lv_aload_n hx hb dL_law_108 rfl (lv_at hl 7 rfl) ?_
              refine lv_iload hx hb dL_law_109 (lv_at hl 0 rfl) ?_
              refine lv_iconst (v := 0) hx hb dL_law_111 (by decide) ?_
              refine RO_go (va_runV (As := [.int (nI a9), .int 0]) (rest := []) ⟨hx, hb, hml, hown, hts⟩ (k_told l a9 0 hI9 (EX.P hE hC) (by omega) (by omega)) (cwV 2 hts gL_law_X3_told rfl rfl rfl (by decide +kernel) ⟨Nat.le_of_ble_eq_true rfl, Nat.le_of_ble_eq_true rfl⟩) (cP_V hK (va_recv hK.1 (AT.one (EX.at hE (hC 0 _ rfl))) (ci := 3) (q0 := 0) rfl rfl)) rfl rfl hl.1 rfl (lv_room (Nat.le_of_ble_eq_true rfl)) dL_law_112 ⟨by show _ ≤ 600130; omega, by show _ ≤ 7301080; omega⟩) ?_
              refine W.eq (g2 := F0 m 115 ls [.int (fY al be fi a9)]) rfl ?_
              refine lv_istore (lv' := [(9, .int (fY al be fi a9)), (8, .int (nI a9)), (7, .int (nI (ct (bt bu) a9))), (6, .int (nI (ct (dbt al be to fi la) a9))), (5, .int (nI N)), (4, .int (w30 + (nI (263 * i8)))), (3, .int (nI i8)), (2, .ref a), (1, .ref (ad 0)), (0, .ref b)]) hx hb dL_law_115 hl (by decide) rfl (fun ls hl => ?_)
              refine lv_aload_n hx hb dL_law_117 rfl (lv_at hl 8 rfl) ?_
              refine lv_iload hx hb dL_law_118 (lv_at hl 1 rfl) ?_
              refine lv_iconst (v := 1) hx hb dL_law_120 (by decide) ?_
              refine RO_go (va_runV (As := [.int (nI a9), .int 1]) (rest := []) ⟨hx, hb, hml, hown, hts⟩ (k_told l a9 1 hI9 (EX.P hE hC) (by omega) (by omega)) (cwV 2 hts gL_law_X3_told rfl rfl rfl (by decide +kernel) ⟨Nat.le_of_ble_eq_true rfl, Nat.le_of_ble_eq_true rfl⟩) (cP_V hK (va_recv hK.1 (AT.one (EX.at hE (hC 0 _ rfl))) (ci := 3) (q0 := 0) rfl rfl)) rfl rfl hl.1 rfl (lv_room (Nat.le_of_ble_eq_true rfl)) dL_law_121 ⟨by show _ ≤ 600130; omega, by show _ ≤ 7301080; omega⟩) ?_
              refine W.eq (g2 := F0 m 124 ls [.int (lY al to la a9)]) rfl ?_
              refine lv_istore (lv' := [(10, .int (lY al to la a9)), (9, .int (fY al be fi a9)), (8, .int (nI a9)), (7, .int (nI (ct (bt bu) a9))), (6, .int (nI (ct (dbt al be to fi la) a9))), (5, .int (nI N)), (4, .int (w30 + (nI (263 * i8)))), (3, .int (nI i8)), (2, .ref a), (1, .ref (ad 0)), (0, .ref b)]) hx hb dL_law_124 hl (by decide) rfl (fun ls hl => ?_)
              refine lv_iload hx hb dL_law_126 (lv_at hl 4 rfl) ?_
              refine lv_aload_n hx hb dL_law_128 rfl (lv_at hl 9 rfl) ?_
              refine lv_iload hx hb dL_law_129 (lv_at hl 2 rfl) ?_
              refine lv_iconst (v := 2) hx hb dL_law_131 (by decide) ?_
              refine RO_go (va_runV (As := [.int (nI a9), .int 2]) (rest := [.int (nI (ct (dbt al be to fi la) a9))]) ⟨hx, hb, hml, hown, hts⟩ (k_told l a9 2 hI9 (EX.P hE hC) (by omega) (by omega)) (cwV 2 hts gL_law_X3_told rfl rfl rfl (by decide +kernel) ⟨Nat.le_of_ble_eq_true rfl, Nat.le_of_ble_eq_true rfl⟩) (cP_V hK (va_recv hK.1 (AT.one (EX.at hE (hC 0 _ rfl))) (ci := 3) (q0 := 0) rfl rfl)) rfl rfl hl.1 rfl (lv_room (Nat.le_of_ble_eq_true rfl)) dL_law_132 ⟨by show _ ≤ 600130; omega, by show _ ≤ 7301080; omega⟩) ?_
              refine W.eq (g2 := F0 m 135 ls [.int (bI (dbt al be to fi la a9)), .int (nI (ct (dbt al be to fi la) a9))]) rfl ?_
              rw [bI_nI (dbt al be to fi la a9)]
              refine my_iaddN (x := ct (dbt al be to fi la) a9) (y := (if dbt al be to fi la a9 then 1 else 0)) hx hb dL_law_135 ?_
              refine lv_istore (lv' := [(6, .int (nI ((ct (dbt al be to fi la) a9) + (if dbt al be to fi la a9 then 1 else 0)))), (10, .int (lY al to la a9)), (9, .int (fY al be fi a9)), (8, .int (nI a9)), (7, .int (nI (ct (bt bu) a9))), (5, .int (nI N)), (4, .int (w30 + (nI (263 * i8)))), (3, .int (nI i8)), (2, .ref a), (1, .ref (ad 0)), (0, .ref b)]) hx hb dL_law_136 hl (by decide) rfl (fun ls hl => ?_)
              refine lv_iload hx hb dL_law_138 (lv_at hl 4 rfl) ?_
              refine lv_aload_n hx hb dL_law_140 rfl (lv_at hl 9 rfl) ?_
              refine lv_iload hx hb dL_law_141 (lv_at hl 3 rfl) ?_
              refine lv_bipush (v := 8) hx hb dL_law_143 (by decide) ?_
              refine RO_go (va_runV (As := [.int (nI a9), .int 8]) (rest := [.int (nI (ct (bt bu) a9))]) ⟨hx, hb, hml, hown, hts⟩ (k_told l a9 8 hI9 (EX.P hE hC) (by omega) (by omega)) (cwV 2 hts gL_law_X3_told rfl rfl rfl (by decide +kernel) ⟨Nat.le_of_ble_eq_true rfl, Nat.le_of_ble_eq_true rfl⟩) (cP_V hK (va_recv hK.1 (AT.one (EX.at hE (hC 0 _ rfl))) (ci := 3) (q0 := 0) rfl rfl)) rfl rfl hl.1 rfl (lv_room (Nat.le_of_ble_eq_true rfl)) dL_law_145 ⟨by show _ ≤ 600130; omega, by show _ ≤ 7301080; omega⟩) ?_
              refine W.eq (g2 := F0 m 148 ls [.int (bI (bt bu a9)), .int (nI (ct (bt bu) a9))]) rfl ?_
              rw [bI_nI (bt bu a9)]
              refine my_iaddN (x := ct (bt bu) a9) (y := (if bt bu a9 then 1 else 0)) hx hb dL_law_148 ?_
              refine lv_istore (lv' := [(7, .int (nI ((ct (bt bu) a9) + (if bt bu a9 then 1 else 0)))), (6, .int (nI ((ct (dbt al be to fi la) a9) + (if dbt al be to fi la a9 then 1 else 0)))), (10, .int (lY al to la a9)), (9, .int (fY al be fi a9)), (8, .int (nI a9)), (5, .int (nI N)), (4, .int (w30 + (nI (263 * i8)))), (3, .int (nI i8)), (2, .ref a), (1, .ref (ad 0)), (0, .ref b)]) hx hb dL_law_149 hl (by decide) rfl (fun ls hl => ?_)
              refine lv_iload hx hb dL_law_151 (lv_at hl 3 rfl) ?_
              refine lv_if_lt (tgt := 195) hx hb dL_law_153 (by decide) (fun h9 => absurd h9 (lw_f0 hI9 (by omega))) (fun _ => ?_)
              refine lv_iload hx hb dL_law_156 (lv_at hl 2 rfl) ?_
              refine lv_sipush (v := 9999) hx hb dL_law_158 (by decide) ?_
              refine lv_icmp_gt (tgt := 195) hx hb dL_law_161 (by decide) (fun h9 => absurd h9 (lw_t9 hI9 (by omega))) (fun _ => ?_)
              suffices jn41 : ∀ ls, lv_has ls 18 [(7, .int (nI ((ct (bt bu) a9) + (if bt bu a9 then 1 else 0)))), (6, .int (nI ((ct (dbt al be to fi la) a9) + (if dbt al be to fi la a9 then 1 else 0)))), (10, .int (lY al to la a9)), (9, .int (fY al be fi a9)), (8, .int (nI a9)), (5, .int (nI N)), (4, .int (w30 + (nI (263 * i8)))), (3, .int (nI i8)), (2, .ref a), (1, .ref (ad 0)), (0, .ref b)] → W p l e room_1 s m #[Value.ref b] below meth c H6 locs ((15 + 1500 + i8 * 200 + 2 * 60 + 26) + a9 * 2) ((199 + 22000 + i8 * 2300 + 2 * 900 + 312) + a9 * 8) (lw_Z below #[Value.ref b] s) (F0 m 180 ls [.int (bI (dbt al be to fi la a9))]) by
                refine lv_aload_n hx hb dL_law_164 rfl (lv_at hl 9 rfl) ?_
                refine lv_iload hx hb dL_law_165 (lv_at hl 4 rfl) ?_
                refine lv_iconst (v := 2) hx hb dL_law_167 (by decide) ?_
                refine RO_go (va_runV (As := [.int (nI a9), .int 2]) (rest := []) ⟨hx, hb, hml, hown, hts⟩ (k_told l a9 2 hI9 (EX.P hE hC) (by omega) (by omega)) (cwV 2 hts gL_law_X3_told rfl rfl rfl (by decide +kernel) ⟨Nat.le_of_ble_eq_true rfl, Nat.le_of_ble_eq_true rfl⟩) (cP_V hK (va_recv hK.1 (AT.one (EX.at hE (hC 0 _ rfl))) (ci := 3) (q0 := 0) rfl rfl)) rfl rfl hl.1 rfl (lv_room (Nat.le_of_ble_eq_true rfl)) dL_law_168 ⟨by show _ ≤ 600130; omega, by show _ ≤ 7301080; omega⟩) ?_
                refine W.eq (g2 := F0 m 171 ls [.int (bI (dbt al be to fi la a9))]) rfl ?_
                refine lv_iconst (v := 1) hx hb dL_law_171 (by decide) ?_
                refine lv_icmp_ne (tgt := 179) hx hb dL_law_172 (by decide) (fun h42 => ?_) (fun h42 => ?_)
                · refine lv_iconst (v := 0) hx hb dL_law_179 (by decide) ?_
                  have e9 : (0 : Int32) = bI (dbt al be to fi la a9) := (bI_n1 h42)
                  exact W.eq (congrArg (fun v9 => F0 m 180 ls [.int v9]) e9) (jn41 _ hl)
                · refine lv_iconst (v := 1) hx hb dL_law_175 (by decide) ?_
                  refine lv_goto (tgt := 180) hx hb dL_law_176 (by decide) ?_
                  have e9 : (1 : Int32) = bI (dbt al be to fi la a9) := h42.symm
                  exact W.eq (congrArg (fun v9 => F0 m 180 ls [.int v9]) e9) (jn41 _ hl)
              intro ls hl
              suffices jn43 : ∀ ls, lv_has ls 18 [(7, .int (nI ((ct (bt bu) a9) + (if bt bu a9 then 1 else 0)))), (6, .int (nI ((ct (dbt al be to fi la) a9) + (if dbt al be to fi la a9 then 1 else 0)))), (10, .int (lY al to la a9)), (9, .int (fY al be fi a9)), (8, .int (nI a9)), (5, .int (nI N)), (4, .int (w30 + (nI (263 * i8)))), (3, .int (nI i8)), (2, .ref a), (1, .ref (ad 0)), (0, .ref b)] → W p l e room_1 s m #[Value.ref b] below meth c H6 locs ((15 + 1500 + i8 * 200 + 2 * 60 + 26) + a9 * 2) ((199 + 22000 + i8 * 2300 + 2 * 900 + 312) + a9 * 8) (lw_Z below #[Value.ref b] s) (F0 m 192 ls [.int (bI (dbt al be to fi la a9)), .int (bI (dbt al be to fi la a9))]) by
                refine lv_iload hx hb dL_law_180 (lv_at hl 3 rfl) ?_
                refine lv_iload hx hb dL_law_182 (lv_at hl 2 rfl) ?_
                refine lv_icmp_le (tgt := 191) hx hb dL_law_184 (by decide) (fun h44 => ?_) (fun h44 => ?_)
                · refine lv_iconst (v := 0) hx hb dL_law_191 (by decide) ?_
                  have e9 : (0 : Int32) = bI (dbt al be to fi la a9) := (bI_no (show dbt al be to fi la a9 = false from decide_eq_false (nlt_le h44)))
                  exact W.eq (congrArg (fun v9 => F0 m 192 ls [.int v9, .int (bI (dbt al be to fi la a9))]) e9) (jn43 _ hl)
                · refine lv_iconst (v := 1) hx hb dL_law_187 (by decide) ?_
                  refine lv_goto (tgt := 192) hx hb dL_law_188 (by decide) ?_
                  have e9 : (1 : Int32) = bI (dbt al be to fi la a9) := (bI_of (show dbt al be to fi la a9 = true from decide_eq_true (nle_lt.mp h44)))
                  exact W.eq (congrArg (fun v9 => F0 m 192 ls [.int v9, .int (bI (dbt al be to fi la a9))]) e9) (jn43 _ hl)
              intro ls hl
              refine lv_icmp_eq (tgt := 197) hx hb dL_law_192 (by decide) (fun _ => ?_) (fun h9 => absurd rfl h9)
              refine lv_aload_n hx hb dL_law_197 rfl (lv_at hl 8 rfl) ?_
              refine fa_get (D := D) (ci := 4) (v := .ref ho) (C := RX4) (T := TX4) (N := 7) hx hb hts hinX4 hown hK (EX.at hE hR.1) rfl 4 (by decide) (hts (.fieldLink RL 61 "CairnShellsLaw$Sim" "hearths" "[[I") (by decide +kernel)) (fun _ h9 => h9) rfl dL_law_198 ?_
              refine lv_iload hx hb dL_law_201 (lv_at hl 4 rfl) ?_
              refine fa_aald 2 hx hb hK rfl rfl (EX.at hE hR.2.2.2.1.1) rfl (by omega) (by omega) dL_law_203 ?_
              refine lv_astore (lv' := [(11, .ref (rhe a9)), (7, .int (nI ((ct (bt bu) a9) + (if bt bu a9 then 1 else 0)))), (6, .int (nI ((ct (dbt al be to fi la) a9) + (if dbt al be to fi la a9 then 1 else 0)))), (10, .int (lY al to la a9)), (9, .int (fY al be fi a9)), (8, .int (nI a9)), (5, .int (nI N)), (4, .int (w30 + (nI (263 * i8)))), (3, .int (nI i8)), (2, .ref a), (1, .ref (ad 0)), (0, .ref b)]) hx hb dL_law_204 hl (by decide) rfl (fun ls hl => ?_)
              suffices jn46 : ∀ ls, lv_has ls 18 [(11, .ref (rhe a9)), (7, .int (nI ((ct (bt bu) a9) + (if bt bu a9 then 1 else 0)))), (6, .int (nI ((ct (dbt al be to fi la) a9) + (if dbt al be to fi la a9 then 1 else 0)))), (10, .int (lY al to la a9)), (9, .int (fY al be fi a9)), (8, .int (nI a9)), (5, .int (nI N)), (4, .int (w30 + (nI (263 * i8)))), (3, .int (nI i8)), (2, .ref a), (1, .ref (ad 0)), (0, .ref b)] → W p l e room_1 s m #[Value.ref b] below meth c H6 locs ((15 + 1500 + i8 * 200 + 2 * 60 + 26) + a9 * 2) ((199 + 22000 + i8 * 2300 + 2 * 900 + 312) + a9 * 8) (lw_Z below #[Value.ref b] s) (F0 m 218 ls [.int (bI (dtd fr a9))]) by
                refine lv_aload hx hb dL_law_206 (lv_at hl 0 rfl) ?_
                refine lv_iconst (v := 0) hx hb dL_law_208 (by decide) ?_
                refine fa_iald (D := D) (j := 0) hx hb hK (EX.at hE (hR.2.2.2.1.2 a9 (by omega))) (by omega) (by omega) dL_law_209 ?_
                refine W.eq (g2 := F0 m 210 ls [.int (fr a9)]) rfl ?_
                refine lv_if_lt (tgt := 217) hx hb dL_law_210 (by decide) (fun h47 => ?_) (fun h47 => ?_)
                · refine lv_iconst (v := 0) hx hb dL_law_217 (by decide) ?_
                  have e9 : (0 : Int32) = bI (dtd fr a9) := (bI_no ((hI9.neg (by omega)).mp h47))
                  exact W.eq (congrArg (fun v9 => F0 m 218 ls [.int v9]) e9) (jn46 _ hl)
                · refine lv_iconst (v := 1) hx hb dL_law_213 (by decide) ?_
                  refine lv_goto (tgt := 218) hx hb dL_law_214 (by decide) ?_
                  have e9 : (1 : Int32) = bI (dtd fr a9) := (bI_of (hI9.dtd1 (by omega) h47))
                  exact W.eq (congrArg (fun v9 => F0 m 218 ls [.int v9]) e9) (jn46 _ hl)
              intro ls hl
              suffices jn48 : ∀ ls, lv_has ls 18 [(11, .ref (rhe a9)), (7, .int (nI ((ct (bt bu) a9) + (if bt bu a9 then 1 else 0)))), (6, .int (nI ((ct (dbt al be to fi la) a9) + (if dbt al be to fi la a9 then 1 else 0)))), (10, .int (lY al to la a9)), (9, .int (fY al be fi a9)), (8, .int (nI a9)), (5, .int (nI N)), (4, .int (w30 + (nI (263 * i8)))), (3, .int (nI i8)), (2, .ref a), (1, .ref (ad 0)), (0, .ref b)] → W p l e room_1 s m #[Value.ref b] below meth c H6 locs ((15 + 1500 + i8 * 200 + 2 * 60 + 26) + a9 * 2) ((199 + 22000 + i8 * 2300 + 2 * 900 + 312) + a9 * 8) (lw_Z below #[Value.ref b] s) (F0 m 235 ls [.int (bI (bt bu a9)), .int (bI (dtd fr a9))]) by
                refine lv_aload_n hx hb dL_law_218 rfl (lv_at hl 10 rfl) ?_
                refine lv_iload hx hb dL_law_219 (lv_at hl 5 rfl) ?_
                refine lv_bipush (v := 8) hx hb dL_law_221 (by decide) ?_
                refine RO_go (va_runV (As := [.int (nI a9), .int 8]) (rest := [.int (bI (dtd fr a9))]) ⟨hx, hb, hml, hown, hts⟩ (k_told l a9 8 hI9 (EX.P hE hC) (by omega) (by omega)) (cwV 2 hts gL_law_X3_told rfl rfl rfl (by decide +kernel) ⟨Nat.le_of_ble_eq_true rfl, Nat.le_of_ble_eq_true rfl⟩) (cP_V hK (va_recv hK.1 (AT.one (EX.at hE (hC 0 _ rfl))) (ci := 3) (q0 := 0) rfl rfl)) rfl rfl hl.1 rfl (lv_room (Nat.le_of_ble_eq_true rfl)) dL_law_223 ⟨by show _ ≤ 600130; omega, by show _ ≤ 7301080; omega⟩) ?_
                refine W.eq (g2 := F0 m 226 ls [.int (bI (bt bu a9)), .int (bI (dtd fr a9))]) rfl ?_
                refine lv_iconst (v := 1) hx hb dL_law_226 (by decide) ?_
                refine lv_icmp_ne (tgt := 234) hx hb dL_law_227 (by decide) (fun h49 => ?_) (fun h49 => ?_)
                · refine lv_iconst (v := 0) hx hb dL_law_234 (by decide) ?_
                  have e9 : (0 : Int32) = bI (bt bu a9) := (bI_n1 h49)
                  exact W.eq (congrArg (fun v9 => F0 m 235 ls [.int v9, .int (bI (dtd fr a9))]) e9) (jn48 _ hl)
                · refine lv_iconst (v := 1) hx hb dL_law_230 (by decide) ?_
                  refine lv_goto (tgt := 235) hx hb dL_law_231 (by decide) ?_
                  have e9 : (1 : Int32) = bI (bt bu a9) := h49.symm
                  exact W.eq (congrArg (fun v9 => F0 m 235 ls [.int v9, .int (bI (dtd fr a9))]) e9) (jn48 _ hl)
              intro ls hl
              refine lv_icmp_ne (tgt := 263) hx hb dL_law_235 (by decide) (fun h9 => absurd (congrArg bI (lw_b8 hI9 (by omega)).symm) h9) (fun _ => ?_)
              suffices jn51 : ∀ ls, lv_has ls 18 [(11, .ref (rhe a9)), (7, .int (nI ((ct (bt bu) a9) + (if bt bu a9 then 1 else 0)))), (6, .int (nI ((ct (dbt al be to fi la) a9) + (if dbt al be to fi la a9 then 1 else 0)))), (10, .int (lY al to la a9)), (9, .int (fY al be fi a9)), (8, .int (nI a9)), (5, .int (nI N)), (4, .int (w30 + (nI (263 * i8)))), (3, .int (nI i8)), (2, .ref a), (1, .ref (ad 0)), (0, .ref b)] → W p l e room_1 s m #[Value.ref b] below meth c H6 locs ((15 + 1500 + i8 * 200 + 2 * 60 + 26) + a9 * 2) ((199 + 22000 + i8 * 2300 + 2 * 900 + 312) + a9 * 8) (lw_Z below #[Value.ref b] s) (F0 m 265 ls []) by
                refine lv_aload hx hb dL_law_238 (lv_at hl 0 rfl) ?_
                refine lv_iconst (v := 0) hx hb dL_law_240 (by decide) ?_
                refine fa_iald (D := D) (j := 0) hx hb hK (EX.at hE (hR.2.2.2.1.2 a9 (by omega))) (by omega) (by omega) dL_law_241 ?_
                refine W.eq (g2 := F0 m 242 ls [.int (fr a9)]) rfl ?_
                refine lv_if_lt (tgt := 265) hx hb dL_law_242 (by decide) (fun h52 => ?_) (fun h52 => ?_)
                · exact jn51 _ hl
                · refine lv_iload hx hb dL_law_245 (lv_at hl 4 rfl) ?_
                  refine lv_aload hx hb dL_law_247 (lv_at hl 0 rfl) ?_
                  refine lv_iconst (v := 0) hx hb dL_law_249 (by decide) ?_
                  refine fa_iald (D := D) (j := 0) hx hb hK (EX.at hE (hR.2.2.2.1.2 a9 (by omega))) (by omega) (by omega) dL_law_250 ?_
                  refine W.eq (g2 := F0 m 251 ls [.int (fr a9), .int (fY al be fi a9)]) rfl ?_
                  refine lv_icmp_lt (tgt := 263) hx hb dL_law_251 (by decide) (fun h9 => absurd h9 (lw_own hI9 (by omega) h52).1) (fun _ => ?_)
                  refine lv_iload hx hb dL_law_254 (lv_at hl 3 rfl) ?_
                  refine lv_aload hx hb dL_law_256 (lv_at hl 0 rfl) ?_
                  refine lv_iconst (v := 1) hx hb dL_law_258 (by decide) ?_
                  refine fa_iald (D := D) (j := 1) hx hb hK (EX.at hE (hR.2.2.2.1.2 a9 (by omega))) (by omega) (by omega) dL_law_259 ?_
                  refine W.eq (g2 := F0 m 260 ls [.int (tt a9), .int (lY al to la a9)]) rfl ?_
                  refine lv_icmp_le (tgt := 265) hx hb dL_law_260 (by decide) (fun _ => ?_) (fun h9 => absurd (lw_own hI9 (by omega) h52).2 h9)
                  exact jn51 _ hl
              intro ls hl
              suffices jn55 : ∀ ls, lv_has ls 18 [(11, .ref (rhe a9)), (7, .int (nI ((ct (bt bu) a9) + (if bt bu a9 then 1 else 0)))), (6, .int (nI ((ct (dbt al be to fi la) a9) + (if dbt al be to fi la a9 then 1 else 0)))), (10, .int (lY al to la a9)), (9, .int (fY al be fi a9)), (8, .int (nI a9)), (5, .int (nI N)), (4, .int (w30 + (nI (263 * i8)))), (3, .int (nI i8)), (2, .ref a), (1, .ref (ad 0)), (0, .ref b)] → W p l e room_1 s m #[Value.ref b] below meth c H6 locs ((15 + 1500 + i8 * 200 + 2 * 60 + 26) + a9 * 2) ((199 + 22000 + i8 * 2300 + 2 * 900 + 312) + a9 * 8) (lw_Z below #[Value.ref b] s) (F0 m 275 ls [.int (bI (decide (fY al be fi a9 = 0)))]) by
                refine lv_iload hx hb dL_law_265 (lv_at hl 4 rfl) ?_
                refine lv_if_ne (tgt := 274) hx hb dL_law_267 (by decide) (fun h56 => ?_) (fun h56 => ?_)
                · refine lv_iconst (v := 0) hx hb dL_law_274 (by decide) ?_
                  have e9 : (0 : Int32) = bI (decide (fY al be fi a9 = 0)) := (bI_no (decide_eq_false h56))
                  exact W.eq (congrArg (fun v9 => F0 m 275 ls [.int v9]) e9) (jn55 _ hl)
                · refine lv_iconst (v := 1) hx hb dL_law_270 (by decide) ?_
                  refine lv_goto (tgt := 275) hx hb dL_law_271 (by decide) ?_
                  have e9 : (1 : Int32) = bI (decide (fY al be fi a9 = 0)) := (bI_of (decide_eq_true h56))
                  exact W.eq (congrArg (fun v9 => F0 m 275 ls [.int v9]) e9) (jn55 _ hl)
              intro ls hl
              refine lv_istore (lv' := [(12, .int (bI (decide (fY al be fi a9 = 0)))), (11, .ref (rhe a9)), (7, .int (nI ((ct (bt bu) a9) + (if bt bu a9 then 1 else 0)))), (6, .int (nI ((ct (dbt al be to fi la) a9) + (if dbt al be to fi la a9 then 1 else 0)))), (10, .int (lY al to la a9)), (9, .int (fY al be fi a9)), (8, .int (nI a9)), (5, .int (nI N)), (4, .int (w30 + (nI (263 * i8)))), (3, .int (nI i8)), (2, .ref a), (1, .ref (ad 0)), (0, .ref b)]) hx hb dL_law_275 hl (by decide) rfl (fun ls hl => ?_)
              suffices jn57 : ∀ ls, lv_has ls 18 [(12, .int (bI (decide (fY al be fi a9 = 0)))), (11, .ref (rhe a9)), (7, .int (nI ((ct (bt bu) a9) + (if bt bu a9 then 1 else 0)))), (6, .int (nI ((ct (dbt al be to fi la) a9) + (if dbt al be to fi la a9 then 1 else 0)))), (10, .int (lY al to la a9)), (9, .int (fY al be fi a9)), (8, .int (nI a9)), (5, .int (nI N)), (4, .int (w30 + (nI (263 * i8)))), (3, .int (nI i8)), (2, .ref a), (1, .ref (ad 0)), (0, .ref b)] → W p l e room_1 s m #[Value.ref b] below meth c H6 locs ((15 + 1500 + i8 * 200 + 2 * 60 + 26) + a9 * 2) ((199 + 22000 + i8 * 2300 + 2 * 900 + 312) + a9 * 8) (lw_Z below #[Value.ref b] s) (F0 m 290 ls [.int (bI (decide (lY al to la a9 = 9999)))]) by
                refine lv_iload hx hb dL_law_277 (lv_at hl 4 rfl) ?_
                refine lv_sipush (v := 9999) hx hb dL_law_279 (by decide) ?_
                refine lv_icmp_ne (tgt := 289) hx hb dL_law_282 (by decide) (fun h58 => ?_) (fun h58 => ?_)
                · refine lv_iconst (v := 0) hx hb dL_law_289 (by decide) ?_
                  have e9 : (0 : Int32) = bI (decide (lY al to la a9 = 9999)) := (bI_no (decide_eq_false h58))
                  exact W.eq (congrArg (fun v9 => F0 m 290 ls [.int v9]) e9) (jn57 _ hl)
                · refine lv_iconst (v := 1) hx hb dL_law_285 (by decide) ?_
                  refine lv_goto (tgt := 290) hx hb dL_law_286 (by decide) ?_
                  have e9 : (1 : Int32) = bI (decide (lY al to la a9 = 9999)) := (bI_of (decide_eq_true h58))
                  exact W.eq (congrArg (fun v9 => F0 m 290 ls [.int v9]) e9) (jn57 _ hl)
              intro ls hl
              refine lv_istore (lv' := [(13, .int (bI (decide (lY al to la a9 = 9999)))), (12, .int (bI (decide (fY al be fi a9 = 0)))), (11, .ref (rhe a9)), (7, .int (nI ((ct (bt bu) a9) + (if bt bu a9 then 1 else 0)))), (6, .int (nI ((ct (dbt al be to fi la) a9) + (if dbt al be to fi la a9 then 1 else 0)))), (10, .int (lY al to la a9)), (9, .int (fY al be fi a9)), (8, .int (nI a9)), (5, .int (nI N)), (4, .int (w30 + (nI (263 * i8)))), (3, .int (nI i8)), (2, .ref a), (1, .ref (ad 0)), (0, .ref b)]) hx hb dL_law_290 hl (by decide) rfl (fun ls hl => ?_)
              refine lv_iconst (v := 0) hx hb dL_law_292 (by decide) ?_
              refine lv_istore (lv' := [(14, .int 0), (13, .int (bI (decide (lY al to la a9 = 9999)))), (12, .int (bI (decide (fY al be fi a9 = 0)))), (11, .ref (rhe a9)), (7, .int (nI ((ct (bt bu) a9) + (if bt bu a9 then 1 else 0)))), (6, .int (nI ((ct (dbt al be to fi la) a9) + (if dbt al be to fi la a9 then 1 else 0)))), (10, .int (lY al to la a9)), (9, .int (fY al be fi a9)), (8, .int (nI a9)), (5, .int (nI N)), (4, .int (w30 + (nI (263 * i8)))), (3, .int (nI i8)), (2, .ref a), (1, .ref (ad 0)), (0, .ref b)]) hx hb dL_law_293 hl (by decide) rfl (fun ls hl => ?_)
              suffices lp295 : ∀ (n b9 : Nat) (u13 : Int32) (u12 : Int32), b9 ≤ N → N < b9 + n → u13 = bI (orB (decide (lY al to la a9 = 9999)) (fun k => !decide (fr k < 0) && (decide (tt k = lY al to la a9) && (bt (al a9) k || bt (be k) a9))) b9) → u12 = bI (orB (decide (fY al be fi a9 = 0)) (fun k => decide (fr k = fY al be fi a9) && (bt (al a9) k || bt (be a9) k)) b9) → ∀ ls, lv_has ls 18 [(14, .int (nI b9)), (13, .int u13), (12, .int u12), (11, .ref (rhe a9)), (7, .int (nI ((ct (bt bu) a9) + (if bt bu a9 then 1 else 0)))), (6, .int (nI ((ct (dbt al be to fi la) a9) + (if dbt al be to fi la a9 then 1 else 0)))), (10, .int (lY al to la a9)), (9, .int (fY al be fi a9)), (8, .int (nI a9)), (5, .int (nI N)), (4, .int (w30 + (nI (263 * i8)))), (3, .int (nI i8)), (2, .ref a), (1, .ref (ad 0)), (0, .ref b)] → W p l e room_1 s m #[Value.ref b] below meth c H6 locs ((15 + 1500 + i8 * 200 + 2 * 60 + 26) + a9 * 2) ((199 + 22000 + i8 * 2300 + 2 * 900 + 312) + a9 * 8) (lw_Z below #[Value.ref b] s) (F0 m 295 ls []) from lp295 (N + 1) 0 (bI (decide (lY al to la a9 = 9999))) (bI (decide (fY al be fi a9 = 0))) (by omega) (by omega) (by first | rfl | (simp []; done) | decide) (by first | rfl | (simp []; done) | decide)  _ (lv_sub hl [0, 1, 2, 3, 4, 5, 6, 7, 8, 9, 10, 11, 12, 13, 14] rfl)
              intro n
              induction n with
              | zero => intro b9 u13 u12 hk1 hk2; exact absurd hk2 (by omega)
              | succ n ih295 =>
                intro b9 u13 u12 hk295 hn295 eu13 eu12  ls hl
                subst eu13
                subst eu12
                refine lv_iload hx hb dL_law_295 (lv_at hl 0 rfl) ?_
                refine lv_iload hx hb dL_law_297 (lv_at hl 9 rfl) ?_
                refine my_geN (x := b9) (y := N) (tgt := 494) hx hb dL_law_299 (by decide) (by omega) (by omega) (fun h60 => ?_) (fun h60 => ?_)
                · obtain rfl : N = b9 := by omega
                  refine lv_iload hx hb dL_law_494 (lv_at hl 2 rfl) ?_
                  refine my_ifeq_b (tgt := 504) hx hb dL_law_496 (by decide) (fun h9 => absurd (lw_12 hI9 (show a9 < N by omega)) (by rw [h9]; decide)) (fun _ => ?_)
                  refine lv_iload hx hb dL_law_499 (lv_at hl 1 rfl) ?_
                  refine my_ifne_b (tgt := 506) hx hb dL_law_501 (by decide) (fun _ => ?_) (fun h9 => absurd (lw_13 hI9 (show a9 < N by omega)) (by rw [h9]; decide))
                  refine lv_iconst (v := 4) hx hb dL_law_506 (by decide) ?_
                  refine fa_newI (D := D) (N' := 4) hx hb (hts (.arrayClass .int) (by decide +kernel)) hK hS (by omega) (by show _ ≤ 600130; omega) (by show _ ≤ 7301080; omega) dL_law_507 (fun q63 H64 hq9 hq65 hE9 hS => ?_)
                  obtain ⟨hP, hD⟩ := li_push hP hD hq9 hq65 hE9 (hAz H6 hE hq65)
                  have hP : va_P D vwCl [(q63, .inl (cA, 4, .inl (fun _ => 0)))] H64 := hP
                  have hD : va_D (fun q => S0 ≤ q) [(q63, .inl (cA, 4, .inl (fun _ => 0)))] := hD
                  have hfq63 : H5.size ≤ q63 := by rw [hq65]; exact hE.1
                  have hE := KP.trans hE hE9
                  refine lv_dup hx hb dL_law_509 rfl ?_
                  refine lv_iconst (v := 0) hx hb dL_law_510 (by decide) ?_
                  refine lv_aload_n hx hb dL_law_511 rfl (lv_at hl 13 rfl) ?_
                  refine lv_iload hx hb dL_law_512 (lv_at hl 8 rfl) ?_
                  refine lv_iconst (v := 0) hx hb dL_law_514 (by decide) ?_
                  refine RO_go (va_runV (As := [.int (nI a9), .int 0]) (rest := [.int 0, .ref q63, .ref q63]) ⟨hx, hb, hml, hown, hts⟩ (k_finds l a9 0 hI9 (EX.P hE hC) (by omega) (by omega)) (cwV 2 hts gL_law_X3_finds rfl rfl rfl (by decide +kernel) ⟨Nat.le_of_ble_eq_true rfl, Nat.le_of_ble_eq_true rfl⟩) (cP_V hK (va_recv hK.1 (AT.one (EX.at hE (hC 0 _ rfl))) (ci := 3) (q0 := 0) rfl rfl)) rfl rfl hl.1 rfl (lv_room (Nat.le_of_ble_eq_true rfl)) dL_law_515 ⟨by show _ ≤ 600130; omega, by show _ ≤ 7301080; omega⟩) ?_
                  refine li_iast (D := D) (j := 0) hx hb hK hP hD hS 0 rfl (by omega) (by omega) dL_law_518 (fun H66 locs hP hD hS ho9 => ?_)
                  have hP : va_P D vwCl [(q63, .inl (cA, 4, .inl (upd (fun _ => 0) 0 (sS mn (al a9) 0 14))))] H66 := hP
                  have hD : va_D (fun q => S0 ≤ q) [(q63, .inl (cA, 4, .inl (upd (fun _ => 0) 0 (sS mn (al a9) 0 14))))] := hD
                  have hE := ho9.ex hE hfq63
                  refine lv_dup hx hb dL_law_519 rfl ?_
                  refine lv_iconst (v := 1) hx hb dL_law_520 (by decide) ?_
                  refine lv_aload_n hx hb dL_law_521 rfl (lv_at hl 13 rfl) ?_
                  refine lv_iload hx hb dL_law_522 (lv_at hl 8 rfl) ?_
                  refine lv_iconst (v := 1) hx hb dL_law_524 (by decide) ?_
                  refine RO_go (va_runV (As := [.int (nI a9), .int 1]) (rest := [.int 1, .ref q63, .ref q63]) ⟨hx, hb, hml, hown, hts⟩ (k_finds l a9 1 hI9 (EX.P hE hC) (by omega) (by omega)) (cwV 2 hts gL_law_X3_finds rfl rfl rfl (by decide +kernel) ⟨Nat.le_of_ble_eq_true rfl, Nat.le_of_ble_eq_true rfl⟩) (cP_V hK (va_recv hK.1 (AT.one (EX.at hE (hC 0 _ rfl))) (ci := 3) (q0 := 0) rfl rfl)) rfl rfl hl.1 rfl (lv_room (Nat.le_of_ble_eq_true rfl)) dL_law_525 ⟨by show _ ≤ 600130; omega, by show _ ≤ 7301080; omega⟩) ?_
                  refine li_iast (D := D) (j := 1) hx hb hK hP hD hS 0 rfl (by omega) (by omega) dL_law_528 (fun H67 locs hP hD hS ho9 => ?_)
                  have hP : va_P D vwCl [(q63, .inl (cA, 4, .inl (upd (upd (fun _ => 0) 0 (sS mn (al a9) 0 14)) 1 (sS mn (al a9) 1 14))))] H67 := hP
                  have hD : va_D (fun q => S0 ≤ q) [(q63, .inl (cA, 4, .inl (upd (upd (fun _ => 0) 0 (sS mn (al a9) 0 14)) 1 (sS mn (al a9) 1 14))))] := hD
                  have hE := ho9.ex hE hfq63
                  refine lv_dup hx hb dL_law_529 rfl ?_
                  refine lv_iconst (v := 2) hx hb dL_law_530 (by decide) ?_
                  refine lv_aload_n hx hb dL_law_531 rfl (lv_at hl 13 rfl) ?_
                  refine lv_iload hx hb dL_law_532 (lv_at hl 8 rfl) ?_
                  refine lv_iconst (v := 2) hx hb dL_law_534 (by decide) ?_
                  refine RO_go (va_runV (As := [.int (nI a9), .int 2]) (rest := [.int 2, .ref q63, .ref q63]) ⟨hx, hb, hml, hown, hts⟩ (k_finds l a9 2 hI9 (EX.P hE hC) (by omega) (by omega)) (cwV 2 hts gL_law_X3_finds rfl rfl rfl (by decide +kernel) ⟨Nat.le_of_ble_eq_true rfl, Nat.le_of_ble_eq_true rfl⟩) (cP_V hK (va_recv hK.1 (AT.one (EX.at hE (hC 0 _ rfl))) (ci := 3) (q0 := 0) rfl rfl)) rfl rfl hl.1 rfl (lv_room (Nat.le_of_ble_eq_true rfl)) dL_law_535 ⟨by show _ ≤ 600130; omega, by show _ ≤ 7301080; omega⟩) ?_
                  refine li_iast (D := D) (j := 2) hx hb hK hP hD hS 0 rfl (by omega) (by omega) dL_law_538 (fun H68 locs hP hD hS ho9 => ?_)
                  have hP : va_P D vwCl [(q63, .inl (cA, 4, .inl (upd (upd (upd (fun _ => 0) 0 (sS mn (al a9) 0 14)) 1 (sS mn (al a9) 1 14)) 2 (sS mn (al a9) 2 14))))] H68 := hP
                  have hD : va_D (fun q => S0 ≤ q) [(q63, .inl (cA, 4, .inl (upd (upd (upd (fun _ => 0) 0 (sS mn (al a9) 0 14)) 1 (sS mn (al a9) 1 14)) 2 (sS mn (al a9) 2 14))))] := hD
                  have hE := ho9.ex hE hfq63
                  refine lv_dup hx hb dL_law_539 rfl ?_
                  refine lv_iconst (v := 3) hx hb dL_law_540 (by decide) ?_
                  refine lv_aload_n hx hb dL_law_541 rfl (lv_at hl 13 rfl) ?_
                  refine lv_iload hx hb dL_law_542 (lv_at hl 8 rfl) ?_
                  refine lv_iconst (v := 3) hx hb dL_law_544 (by decide) ?_
                  refine RO_go (va_runV (As := [.int (nI a9), .int 3]) (rest := [.int 3, .ref q63, .ref q63]) ⟨hx, hb, hml, hown, hts⟩ (k_finds l a9 3 hI9 (EX.P hE hC) (by omega) (by omega)) (cwV 2 hts gL_law_X3_finds rfl rfl rfl (by decide +kernel) ⟨Nat.le_of_ble_eq_true rfl, Nat.le_of_ble_eq_true rfl⟩) (cP_V hK (va_recv hK.1 (AT.one (EX.at hE (hC 0 _ rfl))) (ci := 3) (q0 := 0) rfl rfl)) rfl rfl hl.1 rfl (lv_room (Nat.le_of_ble_eq_true rfl)) dL_law_545 ⟨by show _ ≤ 600130; omega, by show _ ≤ 7301080; omega⟩) ?_
                  refine li_iast (D := D) (j := 3) hx hb hK hP hD hS 0 rfl (by omega) (by omega) dL_law_548 (fun H69 locs hP hD hS ho9 => ?_)
                  have hP : va_P D vwCl [(q63, .inl (cA, 4, .inl (upd (upd (upd (upd (fun _ => 0) 0 (sS mn (al a9) 0 14)) 1 (sS mn (al a9) 1 14)) 2 (sS mn (al a9) 2 14)) 3 (sS mn (al a9) 3 14))))] H69 := hP
                  have hD : va_D (fun q => S0 ≤ q) [(q63, .inl (cA, 4, .inl (upd (upd (upd (upd (fun _ => 0) 0 (sS mn (al a9) 0 14)) 1 (sS mn (al a9) 1 14)) 2 (sS mn (al a9) 2 14)) 3 (sS mn (al a9) 3 14))))] := hD
                  have hE := ho9.ex hE hfq63
                  have hfz0 : (upd (upd (upd (upd (fun _ => 0) 0 (sS mn (al a9) 0 14)) 1 (sS mn (al a9) 1 14)) 2 (sS mn (al a9) 2 14)) 3 (sS mn (al a9) 3 14)) 0 = sS mn (al a9) 0 14 := rfl
                  have hfz1 : (upd (upd (upd (upd (fun _ => 0) 0 (sS mn (al a9) 0 14)) 1 (sS mn (al a9) 1 14)) 2 (sS mn (al a9) 2 14)) 3 (sS mn (al a9) 3 14)) 1 = sS mn (al a9) 1 14 := rfl
                  have hfz2 : (upd (upd (upd (upd (fun _ => 0) 0 (sS mn (al a9) 0 14)) 1 (sS mn (al a9) 1 14)) 2 (sS mn (al a9) 2 14)) 3 (sS mn (al a9) 3 14)) 2 = sS mn (al a9) 2 14 := rfl
                  have hfz3 : (upd (upd (upd (upd (fun _ => 0) 0 (sS mn (al a9) 0 14)) 1 (sS mn (al a9) 1 14)) 2 (sS mn (al a9) 2 14)) 3 (sS mn (al a9) 3 14)) 3 = sS mn (al a9) 3 14 := rfl
                  obtain ⟨fz, h9fz⟩ : ∃ w : Nat → Int32, w = upd (upd (upd (upd (fun _ => 0) 0 (sS mn (al a9) 0 14)) 1 (sS mn (al a9) 1 14)) 2 (sS mn (al a9) 2 14)) 3 (sS mn (al a9) 3 14) := ⟨_, rfl⟩
                  rw [← h9fz] at hfz0 hfz1 hfz2 hfz3 hP hD
                  have hP : va_P D vwCl [(q63, .inl (cA, 4, .inl fz))] H69 := hP
                  have hD : va_D (fun q => S0 ≤ q) [(q63, .inl (cA, 4, .inl fz))] := hD
                  refine lv_astore (lv' := [(14, .ref q63), (13, .int (bI (orB (decide (lY al to la a9 = 9999)) (fun k => !decide (fr k < 0) && (decide (tt k = lY al to la a9) && (bt (al a9) k || bt (be k) a9))) N))), (12, .int (bI (orB (decide (fY al be fi a9 = 0)) (fun k => decide (fr k = fY al be fi a9) && (bt (al a9) k || bt (be a9) k)) N))), (11, .ref (rhe a9)), (7, .int (nI ((ct (bt bu) a9) + (if bt bu a9 then 1 else 0)))), (6, .int (nI ((ct (dbt al be to fi la) a9) + (if dbt al be to fi la a9 then 1 else 0)))), (10, .int (lY al to la a9)), (9, .int (fY al be fi a9)), (8, .int (nI a9)), (5, .int (nI N)), (4, .int (w30 + (nI (263 * i8)))), (3, .int (nI i8)), (2, .ref a), (1, .ref (ad 0)), (0, .ref b)]) hx hb dL_law_549 hl (by decide) rfl (fun ls hl => ?_)
                  refine lv_iconst (v := 4) hx hb dL_law_551 (by decide) ?_
                  refine fa_newI (D := D) (N' := 4) hx hb (hts (.arrayClass .int) (by decide +kernel)) hK hS (by omega) (by show _ ≤ 600130; omega) (by show _ ≤ 7301080; omega) dL_law_552 (fun q70 H71 hq9 hq72 hE9 hS => ?_)
                  obtain ⟨hP, hD⟩ := li_push hP hD hq9 hq72 hE9 (hAz H69 hE hq72)
                  have hP : va_P D vwCl [(q63, .inl (cA, 4, .inl fz)), (q70, .inl (cA, 4, .inl (fun _ => 0)))] H71 := hP
                  have hD : va_D (fun q => S0 ≤ q) [(q63, .inl (cA, 4, .inl fz)), (q70, .inl (cA, 4, .inl (fun _ => 0)))] := hD
                  have hfq70 : H5.size ≤ q70 := by rw [hq72]; exact hE.1
                  have hE := KP.trans hE hE9
                  refine lv_dup hx hb dL_law_554 rfl ?_
                  refine lv_iconst (v := 0) hx hb dL_law_555 (by decide) ?_
                  refine lv_iconst (v := 3) hx hb dL_law_556 (by decide) ?_
                  refine lv_aload hx hb dL_law_557 (lv_at hl 0 rfl) ?_
                  refine lv_iconst (v := 0) hx hb dL_law_559 (by decide) ?_
                  refine fa_iald (D := D) (j := 0) hx hb hK (hP 0 _ rfl) (by omega) (by omega) dL_law_560 ?_
                  refine lv_imul hx hb dL_law_561 ?_
                  refine lv_aload hx hb dL_law_562 (lv_at hl 0 rfl) ?_
                  refine lv_iconst (v := 3) hx hb dL_law_564 (by decide) ?_
                  refine fa_iald (D := D) (j := 3) hx hb hK (hP 0 _ rfl) (by omega) (by omega) dL_law_565 ?_
                  refine lv_iadd hx hb dL_law_566 ?_
                  refine li_iast (D := D) (j := 0) hx hb hK hP hD hS 1 rfl (by omega) (by omega) dL_law_567 (fun H73 locs hP hD hS ho9 => ?_)
                  have hP : va_P D vwCl [(q63, .inl (cA, 4, .inl fz)), (q70, .inl (cA, 4, .inl (upd (fun _ => 0) 0 ((3 * (fz 0)) + (fz 3)))))] H73 := hP
                  have hD : va_D (fun q => S0 ≤ q) [(q63, .inl (cA, 4, .inl fz)), (q70, .inl (cA, 4, .inl (upd (fun _ => 0) 0 ((3 * (fz 0)) + (fz 3)))))] := hD
                  have hE := ho9.ex hE hfq70
                  refine lv_dup hx hb dL_law_568 rfl ?_
                  refine lv_iconst (v := 1) hx hb dL_law_569 (by decide) ?_
                  refine lv_iconst (v := 2) hx hb dL_law_570 (by decide) ?_
                  refine lv_aload hx hb dL_law_571 (lv_at hl 0 rfl) ?_
                  refine lv_iconst (v := 1) hx hb dL_law_573 (by decide) ?_
                  refine fa_iald (D := D) (j := 1) hx hb hK (hP 0 _ rfl) (by omega) (by omega) dL_law_574 ?_
                  refine lv_imul hx hb dL_law_575 ?_
                  refine lv_aload hx hb dL_law_576 (lv_at hl 0 rfl) ?_
                  refine lv_iconst (v := 2) hx hb dL_law_578 (by decide) ?_
                  refine fa_iald (D := D) (j := 2) hx hb hK (hP 0 _ rfl) (by omega) (by omega) dL_law_579 ?_
                  refine lv_iconst (v := 2) hx hb dL_law_580 (by decide) ?_
                  refine lv_idiv hx hb dL_law_581 (by decide) ?_
                  refine lv_iadd hx hb dL_law_582 ?_
                  refine li_iast (D := D) (j := 1) hx hb hK hP hD hS 1 rfl (by omega) (by omega) dL_law_583 (fun H74 locs hP hD hS ho9 => ?_)
                  have hP : va_P D vwCl [(q63, .inl (cA, 4, .inl fz)), (q70, .inl (cA, 4, .inl (upd (upd (fun _ => 0) 0 ((3 * (fz 0)) + (fz 3))) 1 ((2 * (fz 1)) + ((fz 2) / 2)))))] H74 := hP
                  have hD : va_D (fun q => S0 ≤ q) [(q63, .inl (cA, 4, .inl fz)), (q70, .inl (cA, 4, .inl (upd (upd (fun _ => 0) 0 ((3 * (fz 0)) + (fz 3))) 1 ((2 * (fz 1)) + ((fz 2) / 2)))))] := hD
                  have hE := ho9.ex hE hfq70
                  refine lv_dup hx hb dL_law_584 rfl ?_
                  refine lv_iconst (v := 2) hx hb dL_law_585 (by decide) ?_
                  refine lv_iconst (v := 2) hx hb dL_law_586 (by decide) ?_
                  refine lv_aload hx hb dL_law_587 (lv_at hl 0 rfl) ?_
                  refine lv_iconst (v := 2) hx hb dL_law_589 (by decide) ?_
                  refine fa_iald (D := D) (j := 2) hx hb hK (hP 0 _ rfl) (by omega) (by omega) dL_law_590 ?_
                  refine lv_imul hx hb dL_law_591 ?_
                  refine lv_aload hx hb dL_law_592 (lv_at hl 0 rfl) ?_
                  refine lv_iconst (v := 1) hx hb dL_law_594 (by decide) ?_
                  refine fa_iald (D := D) (j := 1) hx hb hK (hP 0 _ rfl) (by omega) (by omega) dL_law_595 ?_
                  refine lv_iadd hx hb dL_law_596 ?_
                  refine li_iast (D := D) (j := 2) hx hb hK hP hD hS 1 rfl (by omega) (by omega) dL_law_597 (fun H75 locs hP hD hS ho9 => ?_)
                  have hP : va_P D vwCl [(q63, .inl (cA, 4, .inl fz)), (q70, .inl (cA, 4, .inl (upd (upd (upd (fun _ => 0) 0 ((3 * (fz 0)) + (fz 3))) 1 ((2 * (fz 1)) + ((fz 2) / 2))) 2 ((2 * (fz 2)) + (fz 1)))))] H75 := hP
                  have hD : va_D (fun q => S0 ≤ q) [(q63, .inl (cA, 4, .inl fz)), (q70, .inl (cA, 4, .inl (upd (upd (upd (fun _ => 0) 0 ((3 * (fz 0)) + (fz 3))) 1 ((2 * (fz 1)) + ((fz 2) / 2))) 2 ((2 * (fz 2)) + (fz 1)))))] := hD
                  have hE := ho9.ex hE hfq70
                  refine lv_dup hx hb dL_law_598 rfl ?_
                  refine lv_iconst (v := 3) hx hb dL_law_599 (by decide) ?_
                  refine lv_iconst (v := 4) hx hb dL_law_600 (by decide) ?_
                  refine lv_aload hx hb dL_law_601 (lv_at hl 0 rfl) ?_
                  refine lv_iconst (v := 3) hx hb dL_law_603 (by decide) ?_
                  refine fa_iald (D := D) (j := 3) hx hb hK (hP 0 _ rfl) (by omega) (by omega) dL_law_604 ?_
                  refine lv_imul hx hb dL_law_605 ?_
                  refine lv_aload hx hb dL_law_606 (lv_at hl 0 rfl) ?_
                  refine lv_iconst (v := 0) hx hb dL_law_608 (by decide) ?_
                  refine fa_iald (D := D) (j := 0) hx hb hK (hP 0 _ rfl) (by omega) (by omega) dL_law_609 ?_
                  refine lv_iadd hx hb dL_law_610 ?_
                  refine li_iast (D := D) (j := 3) hx hb hK hP hD hS 1 rfl (by omega) (by omega) dL_law_611 (fun H76 locs hP hD hS ho9 => ?_)
                  have hP : va_P D vwCl [(q63, .inl (cA, 4, .inl fz)), (q70, .inl (cA, 4, .inl (upd (upd (upd (upd (fun _ => 0) 0 ((3 * (fz 0)) + (fz 3))) 1 ((2 * (fz 1)) + ((fz 2) / 2))) 2 ((2 * (fz 2)) + (fz 1))) 3 ((4 * (fz 3)) + (fz 0)))))] H76 := hP
                  have hD : va_D (fun q => S0 ≤ q) [(q63, .inl (cA, 4, .inl fz)), (q70, .inl (cA, 4, .inl (upd (upd (upd (upd (fun _ => 0) 0 ((3 * (fz 0)) + (fz 3))) 1 ((2 * (fz 1)) + ((fz 2) / 2))) 2 ((2 * (fz 2)) + (fz 1))) 3 ((4 * (fz 3)) + (fz 0)))))] := hD
                  have hE := ho9.ex hE hfq70
                  have htz : (upd (upd (upd (upd (fun _ => 0) 0 ((3 * (fz 0)) + (fz 3))) 1 ((2 * (fz 1)) + ((fz 2) / 2))) 2 ((2 * (fz 2)) + (fz 1))) 3 ((4 * (fz 3)) + (fz 0))) = tel (fz 0) (fz 1) (fz 2) (fz 3) := rfl
                  obtain ⟨tz, h9tz⟩ : ∃ w : Nat → Int32, w = upd (upd (upd (upd (fun _ => 0) 0 ((3 * (fz 0)) + (fz 3))) 1 ((2 * (fz 1)) + ((fz 2) / 2))) 2 ((2 * (fz 2)) + (fz 1))) 3 ((4 * (fz 3)) + (fz 0)) := ⟨_, rfl⟩
                  rw [← h9tz] at htz hP hD
                  have hP : va_P D vwCl [(q63, .inl (cA, 4, .inl fz)), (q70, .inl (cA, 4, .inl tz))] H76 := hP
                  have hD : va_D (fun q => S0 ≤ q) [(q63, .inl (cA, 4, .inl fz)), (q70, .inl (cA, 4, .inl tz))] := hD
                  refine lv_astore (lv' := [(15, .ref q70), (14, .ref q63), (13, .int (bI (orB (decide (lY al to la a9 = 9999)) (fun k => !decide (fr k < 0) && (decide (tt k = lY al to la a9) && (bt (al a9) k || bt (be k) a9))) N))), (12, .int (bI (orB (decide (fY al be fi a9 = 0)) (fun k => decide (fr k = fY al be fi a9) && (bt (al a9) k || bt (be a9) k)) N))), (11, .ref (rhe a9)), (7, .int (nI ((ct (bt bu) a9) + (if bt bu a9 then 1 else 0)))), (6, .int (nI ((ct (dbt al be to fi la) a9) + (if dbt al be to fi la a9 then 1 else 0)))), (10, .int (lY al to la a9)), (9, .int (fY al be fi a9)), (8, .int (nI a9)), (5, .int (nI N)), (4, .int (w30 + (nI (263 * i8)))), (3, .int (nI i8)), (2, .ref a), (1, .ref (ad 0)), (0, .ref b)]) hx hb dL_law_612 hl (by decide) rfl (fun ls hl => ?_)
                  refine lv_aload_n hx hb dL_law_614 rfl (lv_at hl 14 rfl) ?_
                  refine lv_iload hx hb dL_law_615 (lv_at hl 9 rfl) ?_
                  refine lv_bipush (v := 7) hx hb dL_law_617 (by decide) ?_
                  refine RO_go (va_runV (As := [.int (nI a9), .int 7]) (rest := []) ⟨hx, hb, hml, hown, hts⟩ (k_told l a9 7 hI9 (EX.P hE hC) (by omega) (by omega)) (cwV 2 hts gL_law_X3_told rfl rfl rfl (by decide +kernel) ⟨Nat.le_of_ble_eq_true rfl, Nat.le_of_ble_eq_true rfl⟩) (cP_V hK (va_recv hK.1 (AT.one (EX.at hE (hC 0 _ rfl))) (ci := 3) (q0 := 0) rfl rfl)) rfl rfl hl.1 rfl (lv_room (Nat.le_of_ble_eq_true rfl)) dL_law_619 ⟨by show _ ≤ 600130; omega, by show _ ≤ 7301080; omega⟩) ?_
                  refine W.eq (g2 := F0 m 622 ls [.int (ssn mn (al a9))]) rfl ?_
                  suffices jn77 : ∀ ls, lv_has ls 18 [(15, .ref q70), (14, .ref q63), (13, .int (bI (orB (decide (lY al to la a9 = 9999)) (fun k => !decide (fr k < 0) && (decide (tt k = lY al to la a9) && (bt (al a9) k || bt (be k) a9))) N))), (12, .int (bI (orB (decide (fY al be fi a9 = 0)) (fun k => decide (fr k = fY al be fi a9) && (bt (al a9) k || bt (be a9) k)) N))), (11, .ref (rhe a9)), (7, .int (nI ((ct (bt bu) a9) + (if bt bu a9 then 1 else 0)))), (6, .int (nI ((ct (dbt al be to fi la) a9) + (if dbt al be to fi la a9 then 1 else 0)))), (10, .int (lY al to la a9)), (9, .int (fY al be fi a9)), (8, .int (nI a9)), (5, .int (nI N)), (4, .int (w30 + (nI (263 * i8)))), (3, .int (nI i8)), (2, .ref a), (1, .ref (ad 0)), (0, .ref b)] → W p l e room_1 s m #[Value.ref b] below meth c H76 locs ((15 + 1500 + i8 * 200 + 2 * 60 + 26) + a9 * 2 + 1 + 1) ((199 + 22000 + i8 * 2300 + 2 * 900 + 312) + a9 * 8 + 4 + 4) (lw_Z below #[Value.ref b] s) (F0 m 721 ls []) by
                    have hsea := lw_sea hI9 (show a9 < N by omega)
                    rw [← hfz0, ← hfz1, ← hfz2, ← hfz3, ← htz] at hsea
                    rcases hsea with ⟨hs1, hs2⟩ | ⟨ks, hks, hs1, hs2, hs3, hs4⟩
                    · rw [hs1]
                      refine lv_istore (lv' := [(16, .int (-1)), (15, .ref q70), (14, .ref q63), (13, .int (bI (orB (decide (lY al to la a9 = 9999)) (fun k => !decide (fr k < 0) && (decide (tt k = lY al to la a9) && (bt (al a9) k || bt (be k) a9))) N))), (12, .int (bI (orB (decide (fY al be fi a9 = 0)) (fun k => decide (fr k = fY al be fi a9) && (bt (al a9) k || bt (be a9) k)) N))), (11, .ref (rhe a9)), (7, .int (nI ((ct (bt bu) a9) + (if bt bu a9 then 1 else 0)))), (6, .int (nI ((ct (dbt al be to fi la) a9) + (if dbt al be to fi la a9 then 1 else 0)))), (10, .int (lY al to la a9)), (9, .int (fY al be fi a9)), (8, .int (nI a9)), (5, .int (nI N)), (4, .int (w30 + (nI (263 * i8)))), (3, .int (nI i8)), (2, .ref a), (1, .ref (ad 0)), (0, .ref b)]) hx hb dL_law_622 hl (by decide) rfl (fun ls hl => ?_)
                      refine lv_iload hx hb dL_law_624 (lv_at hl 0 rfl) ?_
                      refine lv_if_ge (tgt := 633) hx hb dL_law_626 (by decide) (fun h => absurd h (by decide)) (fun _ => ?_)
                      refine lv_iconst (v := 1) hx hb dL_law_629 (by decide) ?_
                      refine lv_goto (tgt := 634) hx hb dL_law_630 (by decide) ?_
                      refine lv_aload hx hb dL_law_634 (lv_at hl 2 rfl) ?_
                      refine lv_iconst (v := 0) hx hb dL_law_636 (by decide) ?_
                      refine fa_iald (D := D) (j := 0) hx hb hK (hP 0 _ rfl) (by omega) (by omega) dL_law_637 ?_
                      refine lv_aload hx hb dL_law_638 (lv_at hl 2 rfl) ?_
                      refine lv_iconst (v := 1) hx hb dL_law_640 (by decide) ?_
                      refine fa_iald (D := D) (j := 1) hx hb hK (hP 0 _ rfl) (by omega) (by omega) dL_law_641 ?_
                      refine lv_iadd hx hb dL_law_642 ?_
                      refine lv_aload hx hb dL_law_643 (lv_at hl 2 rfl) ?_
                      refine lv_iconst (v := 2) hx hb dL_law_645 (by decide) ?_
                      refine fa_iald (D := D) (j := 2) hx hb hK (hP 0 _ rfl) (by omega) (by omega) dL_law_646 ?_
                      refine lv_iadd hx hb dL_law_647 ?_
                      refine lv_aload hx hb dL_law_648 (lv_at hl 2 rfl) ?_
                      refine lv_iconst (v := 3) hx hb dL_law_650 (by decide) ?_
                      refine fa_iald (D := D) (j := 3) hx hb hK (hP 0 _ rfl) (by omega) (by omega) dL_law_651 ?_
                      refine lv_iadd hx hb dL_law_652 ?_
                      refine lv_if_ne (tgt := 660) hx hb dL_law_653 (by decide) (fun h9 => absurd hs2 h9) (fun _ => ?_)
                      refine lv_iconst (v := 1) hx hb dL_law_656 (by decide) ?_
                      refine lv_goto (tgt := 661) hx hb dL_law_657 (by decide) ?_
                      refine my_eqN (x := 1) (y := 1) (tgt := 666) hx hb dL_law_661 (by decide) (by omega) (by omega) (fun _ => ?_) (fun h9 => absurd rfl h9)
                      refine lv_iconst (v := 0) hx hb dL_law_666 (by decide) ?_
                      refine lv_istore (lv' := [(17, .int 0), (16, .int (-1)), (15, .ref q70), (14, .ref q63), (13, .int (bI (orB (decide (lY al to la a9 = 9999)) (fun k => !decide (fr k < 0) && (decide (tt k = lY al to la a9) && (bt (al a9) k || bt (be k) a9))) N))), (12, .int (bI (orB (decide (fY al be fi a9 = 0)) (fun k => decide (fr k = fY al be fi a9) && (bt (al a9) k || bt (be a9) k)) N))), (11, .ref (rhe a9)), (7, .int (nI ((ct (bt bu) a9) + (if bt bu a9 then 1 else 0)))), (6, .int (nI ((ct (dbt al be to fi la) a9) + (if dbt al be to fi la a9 then 1 else 0)))), (10, .int (lY al to la a9)), (9, .int (fY al be fi a9)), (8, .int (nI a9)), (5, .int (nI N)), (4, .int (w30 + (nI (263 * i8)))), (3, .int (nI i8)), (2, .ref a), (1, .ref (ad 0)), (0, .ref b)]) hx hb dL_law_667 hl (by decide) rfl (fun ls hl => ?_)
                      suffices lp669 : ∀ (n v9 : Nat), v9 ≤ 4 → 4 < v9 + n → ∀ ls, lv_has ls 18 [(17, .int (nI v9)), (16, .int (-1)), (15, .ref q70), (14, .ref q63), (13, .int (bI (orB (decide (lY al to la a9 = 9999)) (fun k => !decide (fr k < 0) && (decide (tt k = lY al to la a9) && (bt (al a9) k || bt (be k) a9))) N))), (12, .int (bI (orB (decide (fY al be fi a9 = 0)) (fun k => decide (fr k = fY al be fi a9) && (bt (al a9) k || bt (be a9) k)) N))), (11, .ref (rhe a9)), (7, .int (nI ((ct (bt bu) a9) + (if bt bu a9 then 1 else 0)))), (6, .int (nI ((ct (dbt al be to fi la) a9) + (if dbt al be to fi la a9 then 1 else 0)))), (10, .int (lY al to la a9)), (9, .int (fY al be fi a9)), (8, .int (nI a9)), (5, .int (nI N)), (4, .int (w30 + (nI (263 * i8)))), (3, .int (nI i8)), (2, .ref a), (1, .ref (ad 0)), (0, .ref b)] → W p l e room_1 s m #[Value.ref b] below meth c H76 locs ((15 + 1500 + i8 * 200 + 2 * 60 + 26) + a9 * 2 + 1 + 1) ((199 + 22000 + i8 * 2300 + 2 * 900 + 312) + a9 * 8 + 4 + 4) (lw_Z below #[Value.ref b] s) (F0 m 669 ls []) from lp669 (4 + 1) 0  (by omega) (by omega)   _ (lv_sub hl [0, 1, 2, 3, 4, 5, 6, 7, 8, 9, 10, 11, 12, 13, 14, 15, 16, 17] rfl)
                      intro n
                      induction n with
                      | zero => intro v9  hk1 hk2; exact absurd hk2 (by omega)
                      | succ n ih669 =>
                        intro v9  hk669 hn669   ls hl
                        refine lv_iload hx hb dL_law_669 (lv_at hl 0 rfl) ?_
                        refine lv_iconst (v := 4) hx hb dL_law_671 (by decide) ?_
                        refine my_geN (x := v9) (y := 4) (tgt := 721) hx hb dL_law_672 (by decide) (by omega) (by omega) (fun h82 => ?_) (fun h82 => ?_)
                        · exact jn77 _ (lv_sub hl [2, 3, 4, 5, 6, 7, 8, 9, 10, 11, 12, 13, 14, 15, 16, 17] rfl)
                        · refine lv_iload hx hb dL_law_675 (lv_at hl 1 rfl) ?_
                          refine lv_if_lt (tgt := 721) hx hb dL_law_677 (by decide) (fun _ => ?_) (fun h => absurd (by decide) h)
                          exact jn77 _ (lv_sub hl [2, 3, 4, 5, 6, 7, 8, 9, 10, 11, 12, 13, 14, 15, 16, 17] rfl)
                    · rw [hs1]
                      refine lv_istore (lv' := [(16, .int (nI ks)), (15, .ref q70), (14, .ref q63), (13, .int (bI (orB (decide (lY al to la a9 = 9999)) (fun k => !decide (fr k < 0) && (decide (tt k = lY al to la a9) && (bt (al a9) k || bt (be k) a9))) N))), (12, .int (bI (orB (decide (fY al be fi a9 = 0)) (fun k => decide (fr k = fY al be fi a9) && (bt (al a9) k || bt (be a9) k)) N))), (11, .ref (rhe a9)), (7, .int (nI ((ct (bt bu) a9) + (if bt bu a9 then 1 else 0)))), (6, .int (nI ((ct (dbt al be to fi la) a9) + (if dbt al be to fi la a9 then 1 else 0)))), (10, .int (lY al to la a9)), (9, .int (fY al be fi a9)), (8, .int (nI a9)), (5, .int (nI N)), (4, .int (w30 + (nI (263 * i8)))), (3, .int (nI i8)), (2, .ref a), (1, .ref (ad 0)), (0, .ref b)]) hx hb dL_law_622 hl (by decide) rfl (fun ls hl => ?_)
                      refine lv_iload hx hb dL_law_624 (lv_at hl 0 rfl) ?_
                      refine lv_if_ge (tgt := 633) hx hb dL_law_626 (by decide) (fun _ => ?_) (fun h9 => absurd (nI_pos' (by omega)) h9)
                      refine lv_iconst (v := 0) hx hb dL_law_633 (by decide) ?_
                      refine lv_aload hx hb dL_law_634 (lv_at hl 2 rfl) ?_
                      refine lv_iconst (v := 0) hx hb dL_law_636 (by decide) ?_
                      refine fa_iald (D := D) (j := 0) hx hb hK (hP 0 _ rfl) (by omega) (by omega) dL_law_637 ?_
                      refine lv_aload hx hb dL_law_638 (lv_at hl 2 rfl) ?_
                      refine lv_iconst (v := 1) hx hb dL_law_640 (by decide) ?_
                      refine fa_iald (D := D) (j := 1) hx hb hK (hP 0 _ rfl) (by omega) (by omega) dL_law_641 ?_
                      refine lv_iadd hx hb dL_law_642 ?_
                      refine lv_aload hx hb dL_law_643 (lv_at hl 2 rfl) ?_
                      refine lv_iconst (v := 2) hx hb dL_law_645 (by decide) ?_
                      refine fa_iald (D := D) (j := 2) hx hb hK (hP 0 _ rfl) (by omega) (by omega) dL_law_646 ?_
                      refine lv_iadd hx hb dL_law_647 ?_
                      refine lv_aload hx hb dL_law_648 (lv_at hl 2 rfl) ?_
                      refine lv_iconst (v := 3) hx hb dL_law_650 (by decide) ?_
                      refine fa_iald (D := D) (j := 3) hx hb hK (hP 0 _ rfl) (by omega) (by omega) dL_law_651 ?_
                      refine lv_iadd hx hb dL_law_652 ?_
                      refine lv_if_ne (tgt := 660) hx hb dL_law_653 (by decide) (fun _ => ?_) (fun h9 => absurd h9 hs2)
                      refine lv_iconst (v := 0) hx hb dL_law_660 (by decide) ?_
                      refine my_eqN (x := 0) (y := 0) (tgt := 666) hx hb dL_law_661 (by decide) (by omega) (by omega) (fun _ => ?_) (fun h9 => absurd rfl h9)
                      refine lv_iconst (v := 0) hx hb dL_law_666 (by decide) ?_
                      refine lv_istore (lv' := [(17, .int 0), (16, .int (nI ks)), (15, .ref q70), (14, .ref q63), (13, .int (bI (orB (decide (lY al to la a9 = 9999)) (fun k => !decide (fr k < 0) && (decide (tt k = lY al to la a9) && (bt (al a9) k || bt (be k) a9))) N))), (12, .int (bI (orB (decide (fY al be fi a9 = 0)) (fun k => decide (fr k = fY al be fi a9) && (bt (al a9) k || bt (be a9) k)) N))), (11, .ref (rhe a9)), (7, .int (nI ((ct (bt bu) a9) + (if bt bu a9 then 1 else 0)))), (6, .int (nI ((ct (dbt al be to fi la) a9) + (if dbt al be to fi la a9 then 1 else 0)))), (10, .int (lY al to la a9)), (9, .int (fY al be fi a9)), (8, .int (nI a9)), (5, .int (nI N)), (4, .int (w30 + (nI (263 * i8)))), (3, .int (nI i8)), (2, .ref a), (1, .ref (ad 0)), (0, .ref b)]) hx hb dL_law_667 hl (by decide) rfl (fun ls hl => ?_)
                      suffices lp669 : ∀ (n v9 : Nat), v9 ≤ 4 → 4 < v9 + n → ∀ ls, lv_has ls 18 [(17, .int (nI v9)), (16, .int (nI ks)), (15, .ref q70), (14, .ref q63), (13, .int (bI (orB (decide (lY al to la a9 = 9999)) (fun k => !decide (fr k < 0) && (decide (tt k = lY al to la a9) && (bt (al a9) k || bt (be k) a9))) N))), (12, .int (bI (orB (decide (fY al be fi a9 = 0)) (fun k => decide (fr k = fY al be fi a9) && (bt (al a9) k || bt (be a9) k)) N))), (11, .ref (rhe a9)), (7, .int (nI ((ct (bt bu) a9) + (if bt bu a9 then 1 else 0)))), (6, .int (nI ((ct (dbt al be to fi la) a9) + (if dbt al be to fi la a9 then 1 else 0)))), (10, .int (lY al to la a9)), (9, .int (fY al be fi a9)), (8, .int (nI a9)), (5, .int (nI N)), (4, .int (w30 + (nI (263 * i8)))), (3, .int (nI i8)), (2, .ref a), (1, .ref (ad 0)), (0, .ref b)] → W p l e room_1 s m #[Value.ref b] below meth c H76 locs ((15 + 1500 + i8 * 200 + 2 * 60 + 26) + a9 * 2 + 1 + 1) ((199 + 22000 + i8 * 2300 + 2 * 900 + 312) + a9 * 8 + 4 + 4) (lw_Z below #[Value.ref b] s) (F0 m 669 ls []) from lp669 (4 + 1) 0  (by omega) (by omega)   _ (lv_sub hl [0, 1, 2, 3, 4, 5, 6, 7, 8, 9, 10, 11, 12, 13, 14, 15, 16, 17] rfl)
                      intro n
                      induction n with
                      | zero => intro v9  hk1 hk2; exact absurd hk2 (by omega)
                      | succ n ih669 =>
                        intro v9  hk669 hn669   ls hl
                        refine lv_iload hx hb dL_law_669 (lv_at hl 0 rfl) ?_
                        refine lv_iconst (v := 4) hx hb dL_law_671 (by decide) ?_
                        refine my_geN (x := v9) (y := 4) (tgt := 721) hx hb dL_law_672 (by decide) (by omega) (by omega) (fun h88 => ?_) (fun h88 => ?_)
                        · exact jn77 _ (lv_sub hl [2, 3, 4, 5, 6, 7, 8, 9, 10, 11, 12, 13, 14, 15, 16, 17] rfl)
                        · refine lv_iload hx hb dL_law_675 (lv_at hl 1 rfl) ?_
                          refine my_ltZ (x := ks) (tgt := 721) hx hb dL_law_677 (by decide) (by omega) ?_
                          refine lv_aload hx hb dL_law_680 (lv_at hl 2 rfl) ?_
                          refine lv_iload hx hb dL_law_682 (lv_at hl 0 rfl) ?_
                          refine fa_iald (D := D) (j := v9) hx hb hK (hP 1 _ rfl) (by omega) (by omega) dL_law_684 ?_
                          refine lv_aload hx hb dL_law_685 (lv_at hl 2 rfl) ?_
                          refine lv_iload hx hb dL_law_687 (lv_at hl 1 rfl) ?_
                          refine fa_iald (D := D) (j := ks) hx hb hK (hP 1 _ rfl) (by omega) (by omega) dL_law_689 ?_
                          refine lv_icmp_gt (tgt := 713) hx hb dL_law_690 (by decide) (fun h9 => absurd h9 (hs3 v9 (by omega))) (fun _ => ?_)
                          refine lv_aload hx hb dL_law_693 (lv_at hl 2 rfl) ?_
                          refine lv_iload hx hb dL_law_695 (lv_at hl 0 rfl) ?_
                          refine fa_iald (D := D) (j := v9) hx hb hK (hP 1 _ rfl) (by omega) (by omega) dL_law_697 ?_
                          refine lv_aload hx hb dL_law_698 (lv_at hl 2 rfl) ?_
                          refine lv_iload hx hb dL_law_700 (lv_at hl 1 rfl) ?_
                          refine fa_iald (D := D) (j := ks) hx hb hK (hP 1 _ rfl) (by omega) (by omega) dL_law_702 ?_
                          refine lv_icmp_ne (tgt := 715) hx hb dL_law_703 (by decide) (fun h91 => ?_) (fun h91 => ?_)
                          · refine lv_iinc (v := nI (v9 + 1)) (x := nI v9) (lv' := [(17, .int (nI (v9 + 1))), (16, .int (nI ks)), (15, .ref q70), (14, .ref q63), (13, .int (bI (orB (decide (lY al to la a9 = 9999)) (fun k => !decide (fr k < 0) && (decide (tt k = lY al to la a9) && (bt (al a9) k || bt (be k) a9))) N))), (12, .int (bI (orB (decide (fY al be fi a9 = 0)) (fun k => decide (fr k = fY al be fi a9) && (bt (al a9) k || bt (be a9) k)) N))), (11, .ref (rhe a9)), (7, .int (nI ((ct (bt bu) a9) + (if bt bu a9 then 1 else 0)))), (6, .int (nI ((ct (dbt al be to fi la) a9) + (if dbt al be to fi la a9 then 1 else 0)))), (10, .int (lY al to la a9)), (9, .int (fY al be fi a9)), (8, .int (nI a9)), (5, .int (nI N)), (4, .int (w30 + (nI (263 * i8)))), (3, .int (nI i8)), (2, .ref a), (1, .ref (ad 0)), (0, .ref b)]) hx hb dL_law_715 hl (k := 0) rfl (nI_1 v9) (by decide) rfl (fun ls hl => ?_)
                            refine lv_goto (tgt := 669) hx hb dL_law_718 (by decide) ?_
                            exact ih669 (v9 + 1)  (by omega) (by omega)   _ (lv_sub hl [0, 1, 2, 3, 4, 5, 6, 7, 8, 9, 10, 11, 12, 13, 14, 15, 16, 17] rfl)
                          · refine lv_iload hx hb dL_law_706 (lv_at hl 0 rfl) ?_
                            refine lv_iload hx hb dL_law_708 (lv_at hl 1 rfl) ?_
                            refine my_geN (x := v9) (y := ks) (tgt := 715) hx hb dL_law_710 (by decide) (by omega) (by omega) (fun _ => ?_) (fun h9 => absurd h91 (hs4 v9 (by omega)))
                            refine lv_iinc (v := nI (v9 + 1)) (x := nI v9) (lv' := [(17, .int (nI (v9 + 1))), (16, .int (nI ks)), (15, .ref q70), (14, .ref q63), (13, .int (bI (orB (decide (lY al to la a9 = 9999)) (fun k => !decide (fr k < 0) && (decide (tt k = lY al to la a9) && (bt (al a9) k || bt (be k) a9))) N))), (12, .int (bI (orB (decide (fY al be fi a9 = 0)) (fun k => decide (fr k = fY al be fi a9) && (bt (al a9) k || bt (be a9) k)) N))), (11, .ref (rhe a9)), (7, .int (nI ((ct (bt bu) a9) + (if bt bu a9 then 1 else 0)))), (6, .int (nI ((ct (dbt al be to fi la) a9) + (if dbt al be to fi la a9 then 1 else 0)))), (10, .int (lY al to la a9)), (9, .int (fY al be fi a9)), (8, .int (nI a9)), (5, .int (nI N)), (4, .int (w30 + (nI (263 * i8)))), (3, .int (nI i8)), (2, .ref a), (1, .ref (ad 0)), (0, .ref b)]) hx hb dL_law_715 hl (k := 0) rfl (nI_1 v9) (by decide) rfl (fun ls hl => ?_)
                            refine lv_goto (tgt := 669) hx hb dL_law_718 (by decide) ?_
                            exact ih669 (v9 + 1)  (by omega) (by omega)   _ (lv_sub hl [0, 1, 2, 3, 4, 5, 6, 7, 8, 9, 10, 11, 12, 13, 14, 15, 16, 17] rfl)
                  intro ls hl
                  refine lv_iinc (v := nI (a9 + 1)) (x := nI a9) (lv' := [(8, .int (nI (a9 + 1))), (15, .ref q70), (14, .ref q63), (13, .int (bI (orB (decide (lY al to la a9 = 9999)) (fun k => !decide (fr k < 0) && (decide (tt k = lY al to la a9) && (bt (al a9) k || bt (be k) a9))) N))), (12, .int (bI (orB (decide (fY al be fi a9 = 0)) (fun k => decide (fr k = fY al be fi a9) && (bt (al a9) k || bt (be a9) k)) N))), (11, .ref (rhe a9)), (7, .int (nI ((ct (bt bu) a9) + (if bt bu a9 then 1 else 0)))), (6, .int (nI ((ct (dbt al be to fi la) a9) + (if dbt al be to fi la a9 then 1 else 0)))), (10, .int (lY al to la a9)), (9, .int (fY al be fi a9)), (5, .int (nI N)), (4, .int (w30 + (nI (263 * i8)))), (3, .int (nI i8)), (2, .ref a), (1, .ref (ad 0)), (0, .ref b)]) hx hb dL_law_721 hl (k := 9) rfl (nI_1 a9) (by decide) rfl (fun ls hl => ?_)
                  refine lv_goto (tgt := 101) hx hb dL_law_724 (by decide) ?_
                  have hD : va_D (fun q => S0 ≤ q) [] := by exact hD.sub [] (by decide) rfl
                  have hP : va_P D vwCl [] H76 := by exact hP.sub [] rfl
                  exact W.widen (by omega) (by omega) (ih101 (a9 + 1) (nI ((ct (bt bu) a9) + (if bt bu a9 then 1 else 0))) (nI ((ct (dbt al be to fi la) a9) + (if dbt al be to fi la a9 then 1 else 0))) (by omega) (by omega) rfl rfl _ _ hP hD hS hE  _ (lv_sub hl [0, 6, 7, 10, 11, 12, 13, 14, 15] rfl))
                · refine lv_aload_n hx hb dL_law_302 rfl (lv_at hl 12 rfl) ?_
                  refine fa_get (D := D) (ci := 4) (v := .ref ho) (C := RX4) (T := TX4) (N := 7) hx hb hts hinX4 hown hK (EX.at hE hR.1) rfl 4 (by decide) (hts (.fieldLink RL 61 "CairnShellsLaw$Sim" "hearths" "[[I") (by decide +kernel)) (fun _ h9 => h9) rfl dL_law_303 ?_
                  refine lv_iload hx hb dL_law_306 (lv_at hl 0 rfl) ?_
                  refine fa_aald 2 hx hb hK rfl rfl (EX.at hE hR.2.2.2.1.1) rfl (by omega) (by omega) dL_law_308 ?_
                  refine lv_astore (lv' := [(15, .ref (rhe b9)), (14, .int (nI b9)), (13, .int (bI (orB (decide (lY al to la a9 = 9999)) (fun k => !decide (fr k < 0) && (decide (tt k = lY al to la a9) && (bt (al a9) k || bt (be k) a9))) b9))), (12, .int (bI (orB (decide (fY al be fi a9 = 0)) (fun k => decide (fr k = fY al be fi a9) && (bt (al a9) k || bt (be a9) k)) b9))), (11, .ref (rhe a9)), (7, .int (nI ((ct (bt bu) a9) + (if bt bu a9 then 1 else 0)))), (6, .int (nI ((ct (dbt al be to fi la) a9) + (if dbt al be to fi la a9 then 1 else 0)))), (10, .int (lY al to la a9)), (9, .int (fY al be fi a9)), (8, .int (nI a9)), (5, .int (nI N)), (4, .int (w30 + (nI (263 * i8)))), (3, .int (nI i8)), (2, .ref a), (1, .ref (ad 0)), (0, .ref b)]) hx hb dL_law_309 hl (by decide) rfl (fun ls hl => ?_)
                  refine lv_aload_n hx hb dL_law_311 rfl (lv_at hl 13 rfl) ?_
                  refine fa_get (D := D) (ci := 4) (v := .ref sa1) (C := RX4) (T := TX4) (N := 7) hx hb hts hinX4 hown hK (EX.at hE hR.1) rfl 5 (by decide) (hts (.fieldLink RL 43 "CairnShellsLaw$Sim" "same" "[[Z") (by decide +kernel)) (fun _ h9 => h9) rfl dL_law_312 ?_
                  refine lv_iload hx hb dL_law_315 (lv_at hl 9 rfl) ?_
                  refine fa_aald 3 hx hb hK rfl rfl (EX.at hE hR.2.1.1) rfl (by omega) (by omega) dL_law_317 ?_
                  refine lv_iload hx hb dL_law_318 (lv_at hl 1 rfl) ?_
                  refine fa_zald (D := D) (j := b9) hx hb hK (EX.at hE (hR.2.1.2 a9 (by omega))) (by omega) (by omega) dL_law_320 ?_
                  refine lv_istore (lv' := [(16, .int (bI (bt (al a9) b9))), (15, .ref (rhe b9)), (14, .int (nI b9)), (13, .int (bI (orB (decide (lY al to la a9 = 9999)) (fun k => !decide (fr k < 0) && (decide (tt k = lY al to la a9) && (bt (al a9) k || bt (be k) a9))) b9))), (12, .int (bI (orB (decide (fY al be fi a9 = 0)) (fun k => decide (fr k = fY al be fi a9) && (bt (al a9) k || bt (be a9) k)) b9))), (11, .ref (rhe a9)), (7, .int (nI ((ct (bt bu) a9) + (if bt bu a9 then 1 else 0)))), (6, .int (nI ((ct (dbt al be to fi la) a9) + (if dbt al be to fi la a9 then 1 else 0)))), (10, .int (lY al to la a9)), (9, .int (fY al be fi a9)), (8, .int (nI a9)), (5, .int (nI N)), (4, .int (w30 + (nI (263 * i8)))), (3, .int (nI i8)), (2, .ref a), (1, .ref (ad 0)), (0, .ref b)]) hx hb dL_law_321 hl (by decide) rfl (fun ls hl => ?_)
                  suffices jn93 : ∀ ls, lv_has ls 18 [(16, .int (bI (bt (al a9) b9))), (15, .ref (rhe b9)), (14, .int (nI b9)), (13, .int (bI (orB (decide (lY al to la a9 = 9999)) (fun k => !decide (fr k < 0) && (decide (tt k = lY al to la a9) && (bt (al a9) k || bt (be k) a9))) b9))), (12, .int (bI (orB (decide (fY al be fi a9 = 0)) (fun k => decide (fr k = fY al be fi a9) && (bt (al a9) k || bt (be a9) k)) b9))), (11, .ref (rhe a9)), (7, .int (nI ((ct (bt bu) a9) + (if bt bu a9 then 1 else 0)))), (6, .int (nI ((ct (dbt al be to fi la) a9) + (if dbt al be to fi la a9 then 1 else 0)))), (10, .int (lY al to la a9)), (9, .int (fY al be fi a9)), (8, .int (nI a9)), (5, .int (nI N)), (4, .int (w30 + (nI (263 * i8)))), (3, .int (nI i8)), (2, .ref a), (1, .ref (ad 0)), (0, .ref b)] → W p l e room_1 s m #[Value.ref b] below meth c H6 locs ((15 + 1500 + i8 * 200 + 2 * 60 + 26) + a9 * 2) ((199 + 22000 + i8 * 2300 + 2 * 900 + 312) + a9 * 8) (lw_Z below #[Value.ref b] s) (F0 m 365 ls []) by
                    refine lv_iload hx hb dL_law_323 (lv_at hl 0 rfl) ?_
                    refine my_ifeq_b (tgt := 365) hx hb dL_law_325 (by decide) (fun h94 => ?_) (fun h94 => ?_)
                    · exact jn93 _ hl
                    · refine lv_iconst (v := 0) hx hb dL_law_328 (by decide) ?_
                      refine lv_istore (lv' := [(17, .int 0), (16, .int (bI (bt (al a9) b9))), (15, .ref (rhe b9)), (14, .int (nI b9)), (13, .int (bI (orB (decide (lY al to la a9 = 9999)) (fun k => !decide (fr k < 0) && (decide (tt k = lY al to la a9) && (bt (al a9) k || bt (be k) a9))) b9))), (12, .int (bI (orB (decide (fY al be fi a9 = 0)) (fun k => decide (fr k = fY al be fi a9) && (bt (al a9) k || bt (be a9) k)) b9))), (11, .ref (rhe a9)), (7, .int (nI ((ct (bt bu) a9) + (if bt bu a9 then 1 else 0)))), (6, .int (nI ((ct (dbt al be to fi la) a9) + (if dbt al be to fi la a9 then 1 else 0)))), (10, .int (lY al to la a9)), (9, .int (fY al be fi a9)), (8, .int (nI a9)), (5, .int (nI N)), (4, .int (w30 + (nI (263 * i8)))), (3, .int (nI i8)), (2, .ref a), (1, .ref (ad 0)), (0, .ref b)]) hx hb dL_law_329 hl (by decide) rfl (fun ls hl => ?_)
                      suffices lp331 : ∀ (n w9 : Nat), w9 ≤ 8 → 8 < w9 + n → ∀ ls, lv_has ls 18 [(17, .int (nI w9)), (16, .int (bI (bt (al a9) b9))), (15, .ref (rhe b9)), (14, .int (nI b9)), (13, .int (bI (orB (decide (lY al to la a9 = 9999)) (fun k => !decide (fr k < 0) && (decide (tt k = lY al to la a9) && (bt (al a9) k || bt (be k) a9))) b9))), (12, .int (bI (orB (decide (fY al be fi a9 = 0)) (fun k => decide (fr k = fY al be fi a9) && (bt (al a9) k || bt (be a9) k)) b9))), (11, .ref (rhe a9)), (7, .int (nI ((ct (bt bu) a9) + (if bt bu a9 then 1 else 0)))), (6, .int (nI ((ct (dbt al be to fi la) a9) + (if dbt al be to fi la a9 then 1 else 0)))), (10, .int (lY al to la a9)), (9, .int (fY al be fi a9)), (8, .int (nI a9)), (5, .int (nI N)), (4, .int (w30 + (nI (263 * i8)))), (3, .int (nI i8)), (2, .ref a), (1, .ref (ad 0)), (0, .ref b)] → W p l e room_1 s m #[Value.ref b] below meth c H6 locs ((15 + 1500 + i8 * 200 + 2 * 60 + 26) + a9 * 2) ((199 + 22000 + i8 * 2300 + 2 * 900 + 312) + a9 * 8) (lw_Z below #[Value.ref b] s) (F0 m 331 ls []) from lp331 (8 + 1) 0  (by omega) (by omega)   _ (lv_sub hl [0, 1, 2, 3, 4, 5, 6, 7, 8, 9, 10, 11, 12, 13, 14, 15, 16, 17] rfl)
                      intro n
                      induction n with
                      | zero => intro w9  hk1 hk2; exact absurd hk2 (by omega)
                      | succ n ih331 =>
                        intro w9  hk331 hn331   ls hl
                        refine lv_iload hx hb dL_law_331 (lv_at hl 0 rfl) ?_
                        refine lv_bipush (v := 8) hx hb dL_law_333 (by decide) ?_
                        refine my_geN (x := w9) (y := 8) (tgt := 365) hx hb dL_law_335 (by decide) (by omega) (by omega) (fun h96 => ?_) (fun h96 => ?_)
                        · exact jn93 _ (lv_sub hl [1, 2, 3, 4, 5, 6, 7, 8, 9, 10, 11, 12, 13, 14, 15, 16, 17] rfl)
                        · refine lv_aload_n hx hb dL_law_338 rfl (lv_at hl 16 rfl) ?_
                          refine lv_iload hx hb dL_law_339 (lv_at hl 3 rfl) ?_
                          refine lv_iload hx hb dL_law_341 (lv_at hl 0 rfl) ?_
                          refine RO_go (va_runV (As := [.int (nI b9), .int (nI w9)]) (rest := []) ⟨hx, hb, hml, hown, hts⟩ (k_told l b9 w9 hI9 (EX.P hE hC) (by omega) (by omega)) (cwV 2 hts gL_law_X3_told rfl rfl rfl (by decide +kernel) ⟨Nat.le_of_ble_eq_true rfl, Nat.le_of_ble_eq_true rfl⟩) (cP_V hK (va_recv hK.1 (AT.one (EX.at hE (hC 0 _ rfl))) (ci := 3) (q0 := 0) rfl rfl)) rfl rfl hl.1 rfl (lv_room (Nat.le_of_ble_eq_true rfl)) dL_law_343 ⟨by show _ ≤ 600130; omega, by show _ ≤ 7301080; omega⟩) ?_
                          refine lv_aload_n hx hb dL_law_346 rfl (lv_at hl 16 rfl) ?_
                          refine lv_iload hx hb dL_law_347 (lv_at hl 11 rfl) ?_
                          refine lv_iload hx hb dL_law_349 (lv_at hl 0 rfl) ?_
                          refine RO_go (va_runV (As := [.int (nI a9), .int (nI w9)]) (rest := [.int (tolV N al be to ph mn bu fi la b9 w9)]) ⟨hx, hb, hml, hown, hts⟩ (k_told l a9 w9 hI9 (EX.P hE hC) (by omega) (by omega)) (cwV 2 hts gL_law_X3_told rfl rfl rfl (by decide +kernel) ⟨Nat.le_of_ble_eq_true rfl, Nat.le_of_ble_eq_true rfl⟩) (cP_V hK (va_recv hK.1 (AT.one (EX.at hE (hC 0 _ rfl))) (ci := 3) (q0 := 0) rfl rfl)) rfl rfl hl.1 rfl (lv_room (Nat.le_of_ble_eq_true rfl)) dL_law_351 ⟨by show _ ≤ 600130; omega, by show _ ≤ 7301080; omega⟩) ?_
                          refine lv_icmp_eq (tgt := 359) hx hb dL_law_354 (by decide) (fun _ => ?_) (fun h9 => absurd (lw_same hI9 (by omega) h94 (by omega)) h9)
                          refine lv_iinc (v := nI (w9 + 1)) (x := nI w9) (lv' := [(17, .int (nI (w9 + 1))), (16, .int (bI (bt (al a9) b9))), (15, .ref (rhe b9)), (14, .int (nI b9)), (13, .int (bI (orB (decide (lY al to la a9 = 9999)) (fun k => !decide (fr k < 0) && (decide (tt k = lY al to la a9) && (bt (al a9) k || bt (be k) a9))) b9))), (12, .int (bI (orB (decide (fY al be fi a9 = 0)) (fun k => decide (fr k = fY al be fi a9) && (bt (al a9) k || bt (be a9) k)) b9))), (11, .ref (rhe a9)), (7, .int (nI ((ct (bt bu) a9) + (if bt bu a9 then 1 else 0)))), (6, .int (nI ((ct (dbt al be to fi la) a9) + (if dbt al be to fi la a9 then 1 else 0)))), (10, .int (lY al to la a9)), (9, .int (fY al be fi a9)), (8, .int (nI a9)), (5, .int (nI N)), (4, .int (w30 + (nI (263 * i8)))), (3, .int (nI i8)), (2, .ref a), (1, .ref (ad 0)), (0, .ref b)]) hx hb dL_law_359 hl (k := 0) rfl (nI_1 w9) (by decide) rfl (fun ls hl => ?_)
                          refine lv_goto (tgt := 331) hx hb dL_law_362 (by decide) ?_
                          exact ih331 (w9 + 1)  (by omega) (by omega)   _ (lv_sub hl [0, 1, 2, 3, 4, 5, 6, 7, 8, 9, 10, 11, 12, 13, 14, 15, 16, 17] rfl)
                  intro ls hl
                  suffices jn98 : ∀ ls, lv_has ls 18 [(16, .int (bI (bt (al a9) b9))), (15, .ref (rhe b9)), (14, .int (nI b9)), (13, .int (bI (orB (decide (lY al to la a9 = 9999)) (fun k => !decide (fr k < 0) && (decide (tt k = lY al to la a9) && (bt (al a9) k || bt (be k) a9))) b9))), (12, .int (bI (orB (decide (fY al be fi a9 = 0)) (fun k => decide (fr k = fY al be fi a9) && (bt (al a9) k || bt (be a9) k)) b9))), (11, .ref (rhe a9)), (7, .int (nI ((ct (bt bu) a9) + (if bt bu a9 then 1 else 0)))), (6, .int (nI ((ct (dbt al be to fi la) a9) + (if dbt al be to fi la a9 then 1 else 0)))), (10, .int (lY al to la a9)), (9, .int (fY al be fi a9)), (8, .int (nI a9)), (5, .int (nI N)), (4, .int (w30 + (nI (263 * i8)))), (3, .int (nI i8)), (2, .ref a), (1, .ref (ad 0)), (0, .ref b)] → W p l e room_1 s m #[Value.ref b] below meth c H6 locs ((15 + 1500 + i8 * 200 + 2 * 60 + 26) + a9 * 2) ((199 + 22000 + i8 * 2300 + 2 * 900 + 312) + a9 * 8) (lw_Z below #[Value.ref b] s) (F0 m 407 ls []) by
                    refine lv_aload_n hx hb dL_law_365 rfl (lv_at hl 15 rfl) ?_
                    refine lv_iload hx hb dL_law_366 (lv_at hl 10 rfl) ?_
                    refine lv_iload hx hb dL_law_368 (lv_at hl 2 rfl) ?_
                    refine RO_go (va_runV (As := [.int (nI a9), .int (nI b9)]) (rest := []) ⟨hx, hb, hml, hown, hts⟩ (k_later l a9 b9 hI9 (EX.P hE hC) (by omega) (by omega)) (cwV 2 hts gL_law_X3_later rfl rfl rfl (by decide +kernel) ⟨Nat.le_of_ble_eq_true rfl, Nat.le_of_ble_eq_true rfl⟩) (cP_V hK (va_recv hK.1 (AT.one (EX.at hE (hC 0 _ rfl))) (ci := 3) (q0 := 0) rfl rfl)) rfl rfl hl.1 rfl (lv_room (Nat.le_of_ble_eq_true rfl)) dL_law_370 ⟨by show _ ≤ 600130; omega, by show _ ≤ 7301080; omega⟩) ?_
                    refine my_ifeq_b (tgt := 407) hx hb dL_law_373 (by decide) (fun h99 => ?_) (fun h99 => ?_)
                    · exact jn98 _ hl
                    · refine lv_iload hx hb dL_law_376 (lv_at hl 9 rfl) ?_
                      refine lv_aload_n hx hb dL_law_378 rfl (lv_at hl 15 rfl) ?_
                      refine lv_iload hx hb dL_law_379 (lv_at hl 2 rfl) ?_
                      refine lv_iconst (v := 0) hx hb dL_law_381 (by decide) ?_
                      refine RO_go (va_runV (As := [.int (nI b9), .int 0]) (rest := [.int (fY al be fi a9)]) ⟨hx, hb, hml, hown, hts⟩ (k_told l b9 0 hI9 (EX.P hE hC) (by omega) (by omega)) (cwV 2 hts gL_law_X3_told rfl rfl rfl (by decide +kernel) ⟨Nat.le_of_ble_eq_true rfl, Nat.le_of_ble_eq_true rfl⟩) (cP_V hK (va_recv hK.1 (AT.one (EX.at hE (hC 0 _ rfl))) (ci := 3) (q0 := 0) rfl rfl)) rfl rfl hl.1 rfl (lv_room (Nat.le_of_ble_eq_true rfl)) dL_law_382 ⟨by show _ ≤ 600130; omega, by show _ ≤ 7301080; omega⟩) ?_
                      refine W.eq (g2 := F0 m 385 ls [.int (fY al be fi b9), .int (fY al be fi a9)]) rfl ?_
                      refine lv_icmp_lt (tgt := 405) hx hb dL_law_385 (by decide) (fun h9 => absurd h9 (lw_later (fi := fi) (la := la) hI (by omega) h99).1) (fun _ => ?_)
                      refine lv_iload hx hb dL_law_388 (lv_at hl 8 rfl) ?_
                      refine lv_aload_n hx hb dL_law_390 rfl (lv_at hl 15 rfl) ?_
                      refine lv_iload hx hb dL_law_391 (lv_at hl 2 rfl) ?_
                      refine lv_iconst (v := 1) hx hb dL_law_393 (by decide) ?_
                      refine RO_go (va_runV (As := [.int (nI b9), .int 1]) (rest := [.int (lY al to la a9)]) ⟨hx, hb, hml, hown, hts⟩ (k_told l b9 1 hI9 (EX.P hE hC) (by omega) (by omega)) (cwV 2 hts gL_law_X3_told rfl rfl rfl (by decide +kernel) ⟨Nat.le_of_ble_eq_true rfl, Nat.le_of_ble_eq_true rfl⟩) (cP_V hK (va_recv hK.1 (AT.one (EX.at hE (hC 0 _ rfl))) (ci := 3) (q0 := 0) rfl rfl)) rfl rfl hl.1 rfl (lv_room (Nat.le_of_ble_eq_true rfl)) dL_law_394 ⟨by show _ ≤ 600130; omega, by show _ ≤ 7301080; omega⟩) ?_
                      refine W.eq (g2 := F0 m 397 ls [.int (lY al to la b9), .int (lY al to la a9)]) rfl ?_
                      refine lv_icmp_lt (tgt := 405) hx hb dL_law_397 (by decide) (fun h9 => absurd h9 (lw_later (fi := fi) (la := la) hI (by omega) h99).2.1) (fun _ => ?_)
                      refine lv_iload hx hb dL_law_400 (lv_at hl 0 rfl) ?_
                      refine my_ifeq_b (tgt := 407) hx hb dL_law_402 (by decide) (fun _ => ?_) (fun h9 => absurd h9 (by rw [(lw_later (fi := fi) (la := la) hI (by omega) h99).2.2]; decide))
                      exact jn98 _ hl
                  intro ls hl
                  suffices jn103 : ∀ ls, lv_has ls 18 [(16, .int (bI (bt (al a9) b9))), (15, .ref (rhe b9)), (14, .int (nI b9)), (13, .int (bI (orB (decide (lY al to la a9 = 9999)) (fun k => !decide (fr k < 0) && (decide (tt k = lY al to la a9) && (bt (al a9) k || bt (be k) a9))) b9))), (12, .int (bI (orB (decide (fY al be fi a9 = 0)) (fun k => decide (fr k = fY al be fi a9) && (bt (al a9) k || bt (be a9) k)) b9))), (11, .ref (rhe a9)), (7, .int (nI ((ct (bt bu) a9) + (if bt bu a9 then 1 else 0)))), (6, .int (nI ((ct (dbt al be to fi la) a9) + (if dbt al be to fi la a9 then 1 else 0)))), (10, .int (lY al to la a9)), (9, .int (fY al be fi a9)), (8, .int (nI a9)), (5, .int (nI N)), (4, .int (w30 + (nI (263 * i8)))), (3, .int (nI i8)), (2, .ref a), (1, .ref (ad 0)), (0, .ref b)] → W p l e room_1 s m #[Value.ref b] below meth c H6 locs ((15 + 1500 + i8 * 200 + 2 * 60 + 26) + a9 * 2) ((199 + 22000 + i8 * 2300 + 2 * 900 + 312) + a9 * 8) (lw_Z below #[Value.ref b] s) (F0 m 442 ls [.int (bI (orB (decide (fY al be fi a9 = 0)) (fun k => decide (fr k = fY al be fi a9) && (bt (al a9) k || bt (be a9) k)) b9 || (decide (fr b9 = fY al be fi a9) && (bt (al a9) b9 || bt (be a9) b9))))]) by
                    refine lv_iload hx hb dL_law_407 (lv_at hl 4 rfl) ?_
                    refine my_ifne_b (tgt := 437) hx hb dL_law_409 (by decide) (fun h104 => ?_) (fun h104 => ?_)
                    · refine lv_iconst (v := 1) hx hb dL_law_437 (by decide) ?_
                      refine lv_goto (tgt := 442) hx hb dL_law_438 (by decide) ?_
                      have e9 : (1 : Int32) = bI (orB (decide (fY al be fi a9 = 0)) (fun k => decide (fr k = fY al be fi a9) && (bt (al a9) k || bt (be a9) k)) b9 || (decide (fr b9 = fY al be fi a9) && (bt (al a9) b9 || bt (be a9) b9))) := (by first | exact bI_of h104 | exact bI_of (by simp [h7, h60, h104]))
                      exact W.eq (congrArg (fun v9 => F0 m 442 ls [.int v9]) e9) (jn103 _ hl)
                    · refine lv_aload hx hb dL_law_412 (lv_at hl 1 rfl) ?_
                      refine lv_iconst (v := 0) hx hb dL_law_414 (by decide) ?_
                      refine fa_iald (D := D) (j := 0) hx hb hK (EX.at hE (hR.2.2.2.1.2 b9 (by omega))) (by omega) (by omega) dL_law_415 ?_
                      refine W.eq (g2 := F0 m 416 ls [.int (fr b9)]) rfl ?_
                      refine lv_iload hx hb dL_law_416 (lv_at hl 9 rfl) ?_
                      refine lv_icmp_ne (tgt := 441) hx hb dL_law_418 (by decide) (fun h105 => ?_) (fun h105 => ?_)
                      · refine lv_iconst (v := 0) hx hb dL_law_441 (by decide) ?_
                        have e9 : (0 : Int32) = bI (orB (decide (fY al be fi a9 = 0)) (fun k => decide (fr k = fY al be fi a9) && (bt (al a9) k || bt (be a9) k)) b9 || (decide (fr b9 = fY al be fi a9) && (bt (al a9) b9 || bt (be a9) b9))) := (by first | exact bI_no h105 | exact bI_no (by simp [h7, h60, h104, h105]))
                        exact W.eq (congrArg (fun v9 => F0 m 442 ls [.int v9]) e9) (jn103 _ hl)
                      · refine lv_iload hx hb dL_law_421 (lv_at hl 0 rfl) ?_
                        refine my_ifne_b (tgt := 437) hx hb dL_law_423 (by decide) (fun h106 => ?_) (fun h106 => ?_)
                        · refine lv_iconst (v := 1) hx hb dL_law_437 (by decide) ?_
                          refine lv_goto (tgt := 442) hx hb dL_law_438 (by decide) ?_
                          have e9 : (1 : Int32) = bI (orB (decide (fY al be fi a9 = 0)) (fun k => decide (fr k = fY al be fi a9) && (bt (al a9) k || bt (be a9) k)) b9 || (decide (fr b9 = fY al be fi a9) && (bt (al a9) b9 || bt (be a9) b9))) := (by first | exact bI_of h106 | exact bI_of (by simp [h7, h60, h104, h105, h106]))
                          exact W.eq (congrArg (fun v9 => F0 m 442 ls [.int v9]) e9) (jn103 _ hl)
                        · refine lv_aload_n hx hb dL_law_426 rfl (lv_at hl 15 rfl) ?_
                          refine lv_iload hx hb dL_law_427 (lv_at hl 10 rfl) ?_
                          refine lv_iload hx hb dL_law_429 (lv_at hl 2 rfl) ?_
                          refine RO_go (va_runV (As := [.int (nI a9), .int (nI b9)]) (rest := []) ⟨hx, hb, hml, hown, hts⟩ (k_later l a9 b9 hI9 (EX.P hE hC) (by omega) (by omega)) (cwV 2 hts gL_law_X3_later rfl rfl rfl (by decide +kernel) ⟨Nat.le_of_ble_eq_true rfl, Nat.le_of_ble_eq_true rfl⟩) (cP_V hK (va_recv hK.1 (AT.one (EX.at hE (hC 0 _ rfl))) (ci := 3) (q0 := 0) rfl rfl)) rfl rfl hl.1 rfl (lv_room (Nat.le_of_ble_eq_true rfl)) dL_law_431 ⟨by show _ ≤ 600130; omega, by show _ ≤ 7301080; omega⟩) ?_
                          refine my_ifeq_b (tgt := 441) hx hb dL_law_434 (by decide) (fun h107 => ?_) (fun h107 => ?_)
                          · refine lv_iconst (v := 0) hx hb dL_law_441 (by decide) ?_
                            have e9 : (0 : Int32) = bI (orB (decide (fY al be fi a9 = 0)) (fun k => decide (fr k = fY al be fi a9) && (bt (al a9) k || bt (be a9) k)) b9 || (decide (fr b9 = fY al be fi a9) && (bt (al a9) b9 || bt (be a9) b9))) := (by first | exact bI_no h107 | exact bI_no (by simp [h7, h60, h104, h105, h106, h107]))
                            exact W.eq (congrArg (fun v9 => F0 m 442 ls [.int v9]) e9) (jn103 _ hl)
                          · refine lv_iconst (v := 1) hx hb dL_law_437 (by decide) ?_
                            refine lv_goto (tgt := 442) hx hb dL_law_438 (by decide) ?_
                            have e9 : (1 : Int32) = bI (orB (decide (fY al be fi a9 = 0)) (fun k => decide (fr k = fY al be fi a9) && (bt (al a9) k || bt (be a9) k)) b9 || (decide (fr b9 = fY al be fi a9) && (bt (al a9) b9 || bt (be a9) b9))) := (by first | exact bI_of h107 | exact bI_of (by simp [h7, h60, h104, h105, h106, h107]))
                            exact W.eq (congrArg (fun v9 => F0 m 442 ls [.int v9]) e9) (jn103 _ hl)
                  intro ls hl
                  refine lv_istore (lv' := [(12, .int (bI (orB (decide (fY al be fi a9 = 0)) (fun k => decide (fr k = fY al be fi a9) && (bt (al a9) k || bt (be a9) k)) b9 || (decide (fr b9 = fY al be fi a9) && (bt (al a9) b9 || bt (be a9) b9))))), (16, .int (bI (bt (al a9) b9))), (15, .ref (rhe b9)), (14, .int (nI b9)), (13, .int (bI (orB (decide (lY al to la a9 = 9999)) (fun k => !decide (fr k < 0) && (decide (tt k = lY al to la a9) && (bt (al a9) k || bt (be k) a9))) b9))), (11, .ref (rhe a9)), (7, .int (nI ((ct (bt bu) a9) + (if bt bu a9 then 1 else 0)))), (6, .int (nI ((ct (dbt al be to fi la) a9) + (if dbt al be to fi la a9 then 1 else 0)))), (10, .int (lY al to la a9)), (9, .int (fY al be fi a9)), (8, .int (nI a9)), (5, .int (nI N)), (4, .int (w30 + (nI (263 * i8)))), (3, .int (nI i8)), (2, .ref a), (1, .ref (ad 0)), (0, .ref b)]) hx hb dL_law_442 hl (by decide) rfl (fun ls hl => ?_)
                  suffices jn108 : ∀ ls, lv_has ls 18 [(12, .int (bI (orB (decide (fY al be fi a9 = 0)) (fun k => decide (fr k = fY al be fi a9) && (bt (al a9) k || bt (be a9) k)) b9 || (decide (fr b9 = fY al be fi a9) && (bt (al a9) b9 || bt (be a9) b9))))), (16, .int (bI (bt (al a9) b9))), (15, .ref (rhe b9)), (14, .int (nI b9)), (13, .int (bI (orB (decide (lY al to la a9 = 9999)) (fun k => !decide (fr k < 0) && (decide (tt k = lY al to la a9) && (bt (al a9) k || bt (be k) a9))) b9))), (11, .ref (rhe a9)), (7, .int (nI ((ct (bt bu) a9) + (if bt bu a9 then 1 else 0)))), (6, .int (nI ((ct (dbt al be to fi la) a9) + (if dbt al be to fi la a9 then 1 else 0)))), (10, .int (lY al to la a9)), (9, .int (fY al be fi a9)), (8, .int (nI a9)), (5, .int (nI N)), (4, .int (w30 + (nI (263 * i8)))), (3, .int (nI i8)), (2, .ref a), (1, .ref (ad 0)), (0, .ref b)] → W p l e room_1 s m #[Value.ref b] below meth c H6 locs ((15 + 1500 + i8 * 200 + 2 * 60 + 26) + a9 * 2) ((199 + 22000 + i8 * 2300 + 2 * 900 + 312) + a9 * 8) (lw_Z below #[Value.ref b] s) (F0 m 486 ls [.int (bI (orB (decide (lY al to la a9 = 9999)) (fun k => !decide (fr k < 0) && (decide (tt k = lY al to la a9) && (bt (al a9) k || bt (be k) a9))) b9 || (!decide (fr b9 < 0) && (decide (tt b9 = lY al to la a9) && (bt (al a9) b9 || bt (be b9) a9)))))]) by
                    refine lv_iload hx hb dL_law_444 (lv_at hl 4 rfl) ?_
                    refine my_ifne_b (tgt := 481) hx hb dL_law_446 (by decide) (fun h109 => ?_) (fun h109 => ?_)
                    · refine lv_iconst (v := 1) hx hb dL_law_481 (by decide) ?_
                      refine lv_goto (tgt := 486) hx hb dL_law_482 (by decide) ?_
                      have e9 : (1 : Int32) = bI (orB (decide (lY al to la a9 = 9999)) (fun k => !decide (fr k < 0) && (decide (tt k = lY al to la a9) && (bt (al a9) k || bt (be k) a9))) b9 || (!decide (fr b9 < 0) && (decide (tt b9 = lY al to la a9) && (bt (al a9) b9 || bt (be b9) a9)))) := (by first | exact bI_of h109 | exact bI_of (by simp [h7, h60, h109]))
                      exact W.eq (congrArg (fun v9 => F0 m 486 ls [.int v9]) e9) (jn108 _ hl)
                    · refine lv_aload hx hb dL_law_449 (lv_at hl 2 rfl) ?_
                      refine lv_iconst (v := 0) hx hb dL_law_451 (by decide) ?_
                      refine fa_iald (D := D) (j := 0) hx hb hK (EX.at hE (hR.2.2.2.1.2 b9 (by omega))) (by omega) (by omega) dL_law_452 ?_
                      refine W.eq (g2 := F0 m 453 ls [.int (fr b9)]) rfl ?_
                      refine lv_if_lt (tgt := 485) hx hb dL_law_453 (by decide) (fun h110 => ?_) (fun h110 => ?_)
                      · refine lv_iconst (v := 0) hx hb dL_law_485 (by decide) ?_
                        have e9 : (0 : Int32) = bI (orB (decide (lY al to la a9 = 9999)) (fun k => !decide (fr k < 0) && (decide (tt k = lY al to la a9) && (bt (al a9) k || bt (be k) a9))) b9 || (!decide (fr b9 < 0) && (decide (tt b9 = lY al to la a9) && (bt (al a9) b9 || bt (be b9) a9)))) := (by first | exact bI_no h110 | exact bI_no (by simp [h7, h60, h109, h110]))
                        exact W.eq (congrArg (fun v9 => F0 m 486 ls [.int v9]) e9) (jn108 _ hl)
                      · refine lv_aload hx hb dL_law_456 (lv_at hl 2 rfl) ?_
                        refine lv_iconst (v := 1) hx hb dL_law_458 (by decide) ?_
                        refine fa_iald (D := D) (j := 1) hx hb hK (EX.at hE (hR.2.2.2.1.2 b9 (by omega))) (by omega) (by omega) dL_law_459 ?_
                        refine W.eq (g2 := F0 m 460 ls [.int (tt b9)]) rfl ?_
                        refine lv_iload hx hb dL_law_460 (lv_at hl 8 rfl) ?_
                        refine lv_icmp_ne (tgt := 485) hx hb dL_law_462 (by decide) (fun h111 => ?_) (fun h111 => ?_)
                        · refine lv_iconst (v := 0) hx hb dL_law_485 (by decide) ?_
                          have e9 : (0 : Int32) = bI (orB (decide (lY al to la a9 = 9999)) (fun k => !decide (fr k < 0) && (decide (tt k = lY al to la a9) && (bt (al a9) k || bt (be k) a9))) b9 || (!decide (fr b9 < 0) && (decide (tt b9 = lY al to la a9) && (bt (al a9) b9 || bt (be b9) a9)))) := (by first | exact bI_no h111 | exact bI_no (by simp [h7, h60, h109, h110, h111]))
                          exact W.eq (congrArg (fun v9 => F0 m 486 ls [.int v9]) e9) (jn108 _ hl)
                        · refine lv_iload hx hb dL_law_465 (lv_at hl 1 rfl) ?_
                          refine my_ifne_b (tgt := 481) hx hb dL_law_467 (by decide) (fun h112 => ?_) (fun h112 => ?_)
                          · refine lv_iconst (v := 1) hx hb dL_law_481 (by decide) ?_
                            refine lv_goto (tgt := 486) hx hb dL_law_482 (by decide) ?_
                            have e9 : (1 : Int32) = bI (orB (decide (lY al to la a9 = 9999)) (fun k => !decide (fr k < 0) && (decide (tt k = lY al to la a9) && (bt (al a9) k || bt (be k) a9))) b9 || (!decide (fr b9 < 0) && (decide (tt b9 = lY al to la a9) && (bt (al a9) b9 || bt (be b9) a9)))) := (by first | exact bI_of h112 | exact bI_of (by simp [h7, h60, h109, h110, h111, h112]))
                            exact W.eq (congrArg (fun v9 => F0 m 486 ls [.int v9]) e9) (jn108 _ hl)
                          · refine lv_aload_n hx hb dL_law_470 rfl (lv_at hl 15 rfl) ?_
                            refine lv_iload hx hb dL_law_471 (lv_at hl 3 rfl) ?_
                            refine lv_iload hx hb dL_law_473 (lv_at hl 10 rfl) ?_
                            refine RO_go (va_runV (As := [.int (nI b9), .int (nI a9)]) (rest := []) ⟨hx, hb, hml, hown, hts⟩ (k_later l b9 a9 hI9 (EX.P hE hC) (by omega) (by omega)) (cwV 2 hts gL_law_X3_later rfl rfl rfl (by decide +kernel) ⟨Nat.le_of_ble_eq_true rfl, Nat.le_of_ble_eq_true rfl⟩) (cP_V hK (va_recv hK.1 (AT.one (EX.at hE (hC 0 _ rfl))) (ci := 3) (q0 := 0) rfl rfl)) rfl rfl hl.1 rfl (lv_room (Nat.le_of_ble_eq_true rfl)) dL_law_475 ⟨by show _ ≤ 600130; omega, by show _ ≤ 7301080; omega⟩) ?_
                            refine my_ifeq_b (tgt := 485) hx hb dL_law_478 (by decide) (fun h113 => ?_) (fun h113 => ?_)
                            · refine lv_iconst (v := 0) hx hb dL_law_485 (by decide) ?_
                              have e9 : (0 : Int32) = bI (orB (decide (lY al to la a9 = 9999)) (fun k => !decide (fr k < 0) && (decide (tt k = lY al to la a9) && (bt (al a9) k || bt (be k) a9))) b9 || (!decide (fr b9 < 0) && (decide (tt b9 = lY al to la a9) && (bt (al a9) b9 || bt (be b9) a9)))) := (by first | exact bI_no h113 | exact bI_no (by simp [h7, h60, h109, h110, h111, h112, h113]))
                              exact W.eq (congrArg (fun v9 => F0 m 486 ls [.int v9]) e9) (jn108 _ hl)
                            · refine lv_iconst (v := 1) hx hb dL_law_481 (by decide) ?_
                              refine lv_goto (tgt := 486) hx hb dL_law_482 (by decide) ?_
                              have e9 : (1 : Int32) = bI (orB (decide (lY al to la a9 = 9999)) (fun k => !decide (fr k < 0) && (decide (tt k = lY al to la a9) && (bt (al a9) k || bt (be k) a9))) b9 || (!decide (fr b9 < 0) && (decide (tt b9 = lY al to la a9) && (bt (al a9) b9 || bt (be b9) a9)))) := (by first | exact bI_of h113 | exact bI_of (by simp [h7, h60, h109, h110, h111, h112, h113]))
                              exact W.eq (congrArg (fun v9 => F0 m 486 ls [.int v9]) e9) (jn108 _ hl)
                  intro ls hl
                  refine lv_istore (lv' := [(13, .int (bI (orB (decide (lY al to la a9 = 9999)) (fun k => !decide (fr k < 0) && (decide (tt k = lY al to la a9) && (bt (al a9) k || bt (be k) a9))) b9 || (!decide (fr b9 < 0) && (decide (tt b9 = lY al to la a9) && (bt (al a9) b9 || bt (be b9) a9)))))), (12, .int (bI (orB (decide (fY al be fi a9 = 0)) (fun k => decide (fr k = fY al be fi a9) && (bt (al a9) k || bt (be a9) k)) b9 || (decide (fr b9 = fY al be fi a9) && (bt (al a9) b9 || bt (be a9) b9))))), (16, .int (bI (bt (al a9) b9))), (15, .ref (rhe b9)), (14, .int (nI b9)), (11, .ref (rhe a9)), (7, .int (nI ((ct (bt bu) a9) + (if bt bu a9 then 1 else 0)))), (6, .int (nI ((ct (dbt al be to fi la) a9) + (if dbt al be to fi la a9 then 1 else 0)))), (10, .int (lY al to la a9)), (9, .int (fY al be fi a9)), (8, .int (nI a9)), (5, .int (nI N)), (4, .int (w30 + (nI (263 * i8)))), (3, .int (nI i8)), (2, .ref a), (1, .ref (ad 0)), (0, .ref b)]) hx hb dL_law_486 hl (by decide) rfl (fun ls hl => ?_)
                  refine lv_iinc (v := nI (b9 + 1)) (x := nI b9) (lv' := [(14, .int (nI (b9 + 1))), (13, .int (bI (orB (decide (lY al to la a9 = 9999)) (fun k => !decide (fr k < 0) && (decide (tt k = lY al to la a9) && (bt (al a9) k || bt (be k) a9))) b9 || (!decide (fr b9 < 0) && (decide (tt b9 = lY al to la a9) && (bt (al a9) b9 || bt (be b9) a9)))))), (12, .int (bI (orB (decide (fY al be fi a9 = 0)) (fun k => decide (fr k = fY al be fi a9) && (bt (al a9) k || bt (be a9) k)) b9 || (decide (fr b9 = fY al be fi a9) && (bt (al a9) b9 || bt (be a9) b9))))), (16, .int (bI (bt (al a9) b9))), (15, .ref (rhe b9)), (11, .ref (rhe a9)), (7, .int (nI ((ct (bt bu) a9) + (if bt bu a9 then 1 else 0)))), (6, .int (nI ((ct (dbt al be to fi la) a9) + (if dbt al be to fi la a9 then 1 else 0)))), (10, .int (lY al to la a9)), (9, .int (fY al be fi a9)), (8, .int (nI a9)), (5, .int (nI N)), (4, .int (w30 + (nI (263 * i8)))), (3, .int (nI i8)), (2, .ref a), (1, .ref (ad 0)), (0, .ref b)]) hx hb dL_law_488 hl (k := 4) rfl (nI_1 b9) (by decide) rfl (fun ls hl => ?_)
                  refine lv_goto (tgt := 295) hx hb dL_law_491 (by decide) ?_
                  exact ih295 (b9 + 1) (bI (orB (decide (lY al to la a9 = 9999)) (fun k => !decide (fr k < 0) && (decide (tt k = lY al to la a9) && (bt (al a9) k || bt (be k) a9))) b9 || (!decide (fr b9 < 0) && (decide (tt b9 = lY al to la a9) && (bt (al a9) b9 || bt (be b9) a9))))) (bI (orB (decide (fY al be fi a9 = 0)) (fun k => decide (fr k = fY al be fi a9) && (bt (al a9) k || bt (be a9) k)) b9 || (decide (fr b9 = fY al be fi a9) && (bt (al a9) b9 || bt (be a9) b9)))) (by omega) (by omega) rfl rfl  _ (lv_sub hl [0, 1, 2, 5, 6, 7, 8, 9, 10, 11, 12, 13, 14, 15, 16] rfl)
        · refine lv_aload_n hx hb dL_law_50 rfl (lv_at hl 4 rfl) ?_
          refine lv_aload_n hx hb dL_law_51 rfl (lv_at hl 3 rfl) ?_
          refine lv_iload hx hb dL_law_52 (lv_at hl 1 rfl) ?_
          refine lv_iconst (v := 2) hx hb dL_law_54 (by decide) ?_
          refine lv_iload hx hb dL_law_55 (lv_at hl 0 rfl) ?_
          refine my_imulN (x := 2) (y := j8) hx hb dL_law_57 ?_
          refine lv_ishr hx hb dL_law_58 ?_
          refine lv_sipush (v := 191) hx hb dL_law_59 (by decide) ?_
          refine lv_iload hx hb dL_law_62 (lv_at hl 0 rfl) ?_
          refine my_imulN (x := 191) (y := j8) hx hb dL_law_64 ?_
          refine lv_iadd hx hb dL_law_65 ?_
          refine LQ_go (va_runS (As := [.ref (ad 0), .ref a, .int (((w30 + (nI (263 * i8)) : Int32) >>> ((nI (2 * j8)) &&& 31)) + (nI (191 * j8)))]) (rest := []) ⟨hx, hb, hml, hown, hts⟩ (c_L_act l (D := D) (cA := cA) (H0 := H4) hV (by omega)) (va_cwS 3 hts gL_law_L_act rfl rfl rfl (by decide +kernel) ⟨Nat.le_of_ble_eq_true rfl, Nat.le_of_ble_eq_true rfl⟩) (cP_S hK) rfl rfl hl.1 rfl (lv_room (Nat.le_of_ble_eq_true rfl)) dL_law_66 ⟨by show _ ≤ 600130; omega, by show _ ≤ 7301080; omega⟩) hS (fun q h => h) (fun v9 H114 locs hp9 hk9 hS => ?_)
          obtain ⟨rfl, hV2⟩ := hp9
          refine W.eq (g2 := F0 m 69 ls [.int 1]) rfl ?_
          refine lv_if_ne (tgt := 74) hx hb dL_law_69 (by decide) (fun _ => ?_) (fun h => absurd h (by decide))
          refine lv_iinc (v := nI (j8 + 1)) (x := nI j8) (lv' := [(5, .int (nI (j8 + 1))), (4, .int (w30 + (nI (263 * i8)))), (3, .int (nI i8)), (2, .ref a), (1, .ref (ad 0)), (0, .ref b)]) hx hb dL_law_74 hl (k := 0) rfl (nI_1 j8) (by decide) rfl (fun ls hl => ?_)
          refine lv_goto (tgt := 44) hx hb dL_law_77 (by decide) ?_
          exact W.widen (by omega) (by omega) (ih44 (j8 + 1) (by omega) (by omega) _ _ hV2 hS _ (lv_sub hl [0, 1, 2, 3, 4, 5] rfl))
