set_option maxHeartbeats 4000000 in
set_option maxRecDepth 100000 in
theorem c_X4_thrown (l : Launch) {D : va_G} {cA : ClassId} {H0 : Heap} {qy qya qyb qyc qyd qye N : Nat} {th : Int32} (hP : va_P D vwCl [(qy, .inr (4, [.int th, .int (nI N), .ref qya, .ref qyb, .ref qyc, .ref qyd, .ref qye]))] H0) : RO l yX4_thrown wsX4_thrown 0 0 [.ref qy] D cA H0 (some (.int th)) := by
  refine RO_of (cc := cX4_thrown) (maxL := 1) (ret := (some .int)) (by decide) rfl (Nat.le_of_ble_eq_true rfl) ?_
  intro p e s m below meth c ls hx hb hml hr hown hts hlk hH hK hl
  have hown : s.vm.findClass RX4 = some m.cls := hown
  have hl : lv_has ls 1 [(0, .ref qy)] := hl
  have hinX4 : ∀ w ∈ wsX40, w ∈ wsX4_thrown := by decide +kernel
  refine lv_aload_n hx hb dX4_thrown_0 rfl (lv_at hl 0 rfl) ?_
  refine va_get (D := D) (ci := 4) (v := .int th) (C := RX4) (T := TX4) (N := 7) hx hb hts hinX4 hown hK.1 hP 0 rfl rfl 0 (by decide) (hts (.fieldLink RX4 25 "CairnShellsModel" "thrown" "I") (by decide +kernel)) (fun _ h9 => h9) rfl dX4_thrown_1 ?_
  exact RO_zret hx hb hr hlk hH dX4_thrown_4 (by rfl) rfl
set_option maxHeartbeats 4000000 in
set_option maxRecDepth 100000 in
theorem c_X4_isIn (l : Launch) {D : va_G} {cA : ClassId} {H0 : Heap}  (v : Int32) (lo : Int32) (up : Int32) : RO l yX4_isIn wsX4_isIn 0 0 [.int v, .int lo, .int up] D cA H0 (some (.int (bI (isn v lo up)))) := by
  refine RO_of (cc := cX4_isIn) (maxL := 3) (ret := (some .boolean)) (by decide) rfl (Nat.le_of_ble_eq_true rfl) ?_
  intro p e s m below meth c ls hx hb hml hr hown hts hlk hH hK hl
  have hown : s.vm.findClass RX4 = some m.cls := hown
  have hl : lv_has ls 3 [(0, .int v), (1, .int lo), (2, .int up)] := hl
  refine lv_iload_n hx hb dX4_isIn_0 rfl (lv_at hl 0 rfl) ?_
  refine lv_iload_n hx hb dX4_isIn_1 rfl (lv_at hl 1 rfl) ?_
  refine lv_icmp_lt (tgt := 14) hx hb dX4_isIn_2 (by decide) (fun h1 => ?_) (fun h1 => ?_)
  · refine lv_iconst (v := 0) hx hb dX4_isIn_14 (by decide) ?_
    exact RO_zret hx hb hr hlk hH dX4_isIn_15 (by decide) (by first | rfl | simp [bI, isn, h1])
  · refine lv_iload_n hx hb dX4_isIn_5 rfl (lv_at hl 0 rfl) ?_
    refine lv_iload_n hx hb dX4_isIn_6 rfl (lv_at hl 2 rfl) ?_
    refine lv_icmp_gt (tgt := 14) hx hb dX4_isIn_7 (by decide) (fun h2 => ?_) (fun h2 => ?_)
    · refine lv_iconst (v := 0) hx hb dX4_isIn_14 (by decide) ?_
      exact RO_zret hx hb hr hlk hH dX4_isIn_15 (by decide) (by first | rfl | simp [bI, isn, h1, h2])
    · refine lv_iconst (v := 1) hx hb dX4_isIn_10 (by decide) ?_
      refine lv_goto (tgt := 15) hx hb dX4_isIn_11 (by decide) ?_
      exact RO_zret hx hb hr hlk hH dX4_isIn_15 (by decide) (by first | rfl | simp [bI, isn, h1, h2])
set_option maxHeartbeats 4000000 in
set_option maxRecDepth 100000 in
theorem c_X4_isLayer (l : Launch) {D : va_G} {cA : ClassId} {H0 : Heap} {qy qya qyb qyc qyd qye N : Nat} {th : Int32} (v : Int32) (hP : va_P D vwCl [(qy, .inr (4, [.int th, .int (nI N), .ref qya, .ref qyb, .ref qyc, .ref qyd, .ref qye]))] H0) : RO l yX4_isLayer wsX4_isLayer 1 22 [.ref qy, .int v] D cA H0 (some (.int (bI (isn v 0 (nI N - 1))))) := by
  refine RO_of (cc := cX4_isLayer) (maxL := 2) (ret := (some .boolean)) (by decide) rfl (Nat.le_of_ble_eq_true rfl) ?_
  intro p e s m below meth c ls hx hb hml hr hown hts hlk hH hK hl
  have hown : s.vm.findClass RX4 = some m.cls := hown
  have hl : lv_has ls 2 [(0, .ref qy), (1, .int v)] := hl
  have hinX4 : ∀ w ∈ wsX40, w ∈ wsX4_isLayer := by decide +kernel
  refine lv_iload_n hx hb dX4_isLayer_0 rfl (lv_at hl 1 rfl) ?_
  refine lv_iconst (v := 0) hx hb dX4_isLayer_1 (by decide) ?_
  refine lv_aload_n hx hb dX4_isLayer_2 rfl (lv_at hl 0 rfl) ?_
  refine va_get (D := D) (ci := 4) (v := .int (nI N)) (C := RX4) (T := TX4) (N := 7) hx hb hts hinX4 hown hK.1 hP 0 rfl rfl 1 (by decide) (hts (.fieldLink RX4 29 "CairnShellsModel" "layers" "I") (by decide +kernel)) (fun _ h9 => h9) rfl dX4_isLayer_3 ?_
  refine lv_iconst (v := 1) hx hb dX4_isLayer_6 (by decide) ?_
  refine lv_isub hx hb dX4_isLayer_7 ?_
  refine RO_go (va_runS (As := [.int v, .int 0, .int ((nI N) - 1)]) (rest := []) ⟨hx, hb, hml, hown, hts⟩ (c_X4_isIn l (D := D) (cA := cA) (H0 := H0) (v := v) (lo := 0) (up := (nI N) - 1)) (va_cwS 3 hts gX4_isLayer_X4_isIn rfl rfl rfl (by decide +kernel) ⟨Nat.le_of_ble_eq_true rfl, Nat.le_of_ble_eq_true rfl⟩) (cP_S hK) rfl rfl hl.1 rfl (lv_room (Nat.le_of_ble_eq_true rfl)) dX4_isLayer_8 ⟨by omega, by omega⟩) ?_
  exact RO_zret hx hb hr hlk hH dX4_isLayer_11 (bI_nar _) (by first | rfl | simp [bI, ])
set_option maxHeartbeats 4000000 in
set_option maxRecDepth 100000 in
theorem c_X4_has (l : Launch) {D : va_G} {cA : ClassId} {H0 : Heap}  (x : Int32) (j : Nat) (hj : j < 32) : RO l yX4_has wsX4_has 0 0 [.int x, .int (nI j)] D cA H0 (some (.int (bI (bt x j)))) := by
  refine RO_of (cc := cX4_has) (maxL := 2) (ret := (some .boolean)) (by decide) rfl (Nat.le_of_ble_eq_true rfl) ?_
  intro p e s m below meth c ls hx hb hml hr hown hts hlk hH hK hl
  have hown : s.vm.findClass RX4 = some m.cls := hown
  have hl : lv_has ls 2 [(0, .int x), (1, .int (nI j))] := hl
  refine lv_iload_n hx hb dX4_has_0 rfl (lv_at hl 0 rfl) ?_
  refine lv_iload_n hx hb dX4_has_1 rfl (lv_at hl 1 rfl) ?_
  refine lv_ishr hx hb dX4_has_2 ?_
  refine lv_iconst (v := 1) hx hb dX4_has_3 (by decide) ?_
  refine lv_iand hx hb dX4_has_4 ?_
  rw [hasO hj]
  refine lv_iconst (v := 1) hx hb dX4_has_5 (by decide) ?_
  refine lv_icmp_ne (tgt := 13) hx hb dX4_has_6 (by decide) (fun h1 => ?_) (fun h1 => ?_)
  · refine lv_iconst (v := 0) hx hb dX4_has_13 (by decide) ?_
    exact RO_zret hx hb hr hlk hH dX4_has_14 (by decide) (by first | exact h1.symm | exact bI_n1 h1)
  · refine lv_iconst (v := 1) hx hb dX4_has_9 (by decide) ?_
    refine lv_goto (tgt := 14) hx hb dX4_has_10 (by decide) ?_
    exact RO_zret hx hb hr hlk hH dX4_has_14 (by decide) (by first | exact h1.symm | exact bI_n1 h1)
set_option maxHeartbeats 4000000 in
set_option maxRecDepth 100000 in
theorem c_X4_size (l : Launch) {D : va_G} {cA : ClassId} {H0 : Heap}  (x : Int32) : RO l yX4_size wsX4_size 0 0 [.int x] D cA H0 (some (.int (nI (ct (bt x) 14)))) := by
  refine RO_of (cc := cX4_size) (maxL := 3) (ret := (some .int)) (by decide) rfl (Nat.le_of_ble_eq_true rfl) ?_
  intro p e s m below meth c ls hx hb hml hr hown hts hlk hH hK hl
  have hown : s.vm.findClass RX4 = some m.cls := hown
  have hl : lv_has ls 3 [(0, .int x)] := hl
  refine lv_iconst (v := 0) hx hb dX4_size_0 (by decide) ?_
  refine lv_istore_n (lv' := [(1, .int 0), (0, .int x)]) hx hb dX4_size_1 rfl hl (by decide) rfl (fun ls hl => ?_)
  refine lv_iconst (v := 0) hx hb dX4_size_2 (by decide) ?_
  refine lv_istore_n (lv' := [(2, .int 0), (1, .int 0), (0, .int x)]) hx hb dX4_size_3 rfl hl (by decide) rfl (fun ls hl => ?_)
  suffices loop : ∀ (n k : Nat) (y : Nat), k ≤ 14 → 14 < k + n → y = ct (bt x) k → ∀ ls, lv_has ls 3 [(2, .int (nI k)), (1, .int (nI y)), (0, .int x)] → W p l e { frames := 0, cells := 0, slots := 0, locals := 0 } s m ([.int x] : List Value).toArray below meth c H0 [] 0 0 (MQ below (roQ (some (.int (nI (ct (bt x) 14)))) H0) ([.int x] : List Value).toArray s 0 0 (fun _ => False)) (F0 m 4 ls []) from loop (14 + 1) 0 0 (by omega) (by omega) (by first | rfl | (simp []; done) | (simp []; done)) _ (lv_sub hl [0, 1, 2] rfl)
  intro n
  induction n with
  | zero => intro k y hk1 hk2; exact absurd hk2 (by omega)
  | succ n ih4 =>
    intro k y hk4 hn4 ey ls hl
    refine lv_iload_n hx hb dX4_size_4 rfl (lv_at hl 0 rfl) ?_
    refine lv_bipush (v := 14) hx hb dX4_size_5 (by decide) ?_
    refine my_geN (x := k) (y := 14) (tgt := 24) hx hb dX4_size_7 (by decide) (by omega) (by omega) (fun h1 => ?_) (fun h1 => ?_)
    · obtain rfl : k = 14 := by omega
      subst ey
      refine lv_iload_n hx hb dX4_size_24 rfl (lv_at hl 1 rfl) ?_
      exact RO_zret hx hb hr hlk hH dX4_size_25 (by rfl) rfl
    · refine lv_iload_n hx hb dX4_size_10 rfl (lv_at hl 1 rfl) ?_
      refine lv_iload_n hx hb dX4_size_11 rfl (lv_at hl 2 rfl) ?_
      refine lv_iload_n hx hb dX4_size_12 rfl (lv_at hl 0 rfl) ?_
      refine lv_ishr hx hb dX4_size_13 ?_
      refine lv_iconst (v := 1) hx hb dX4_size_14 (by decide) ?_
      refine lv_iand hx hb dX4_size_15 ?_
      rw [hasO (by omega), bI_nI]
      refine my_iaddN (x := y) (y := if bt x k then 1 else 0) hx hb dX4_size_16 ?_
      refine lv_istore_n (lv' := [(1, .int (nI (y + (if bt x k then 1 else 0)))), (2, .int (nI k)), (0, .int x)]) hx hb dX4_size_17 rfl hl (by decide) rfl (fun ls hl => ?_)
      refine lv_iinc (v := nI (k + 1)) (x := nI k) (lv' := [(2, .int (nI (k + 1))), (1, .int (nI (y + (if bt x k then 1 else 0)))), (0, .int x)]) hx hb dX4_size_18 hl (k := 1) rfl (nI_1 k) (by decide) rfl (fun ls hl => ?_)
      refine lv_goto (tgt := 4) hx hb dX4_size_21 (by decide) ?_
      exact ih4 (k + 1) (y + (if bt x k then 1 else 0)) (by omega) (by omega) (by subst ey; first | rfl | simp [ct, h1]) _ (lv_sub hl [0, 1, 2] rfl)
set_option maxHeartbeats 4000000 in
set_option maxRecDepth 100000 in
theorem c_X4_andAbove (l : Launch) {D : va_G} {cA : ClassId} {H0 : Heap} {qy qya qyb qyc qyd qye N : Nat} {th : Int32} {be : Nat → Int32} (x : Int32) (hN : N ≤ 14) (hP : va_P D vwCl [(qy, .inr (4, [.int th, .int (nI N), .ref qya, .ref qyb, .ref qyc, .ref qyd, .ref qye])), (qyb, .inl (cA, 14, .inl be))] H0) : RO l yX4_andAbove wsX4_andAbove 0 0 [.ref qy, .int x] D cA H0 (some (.int (anA be x N))) := by
  refine RO_of (cc := cX4_andAbove) (maxL := 4) (ret := (some .int)) (by decide) rfl (Nat.le_of_ble_eq_true rfl) ?_
  intro p e s m below meth c ls hx hb hml hr hown hts hlk hH hK hl
  have hown : s.vm.findClass RX4 = some m.cls := hown
  have hl : lv_has ls 4 [(0, .ref qy), (1, .int x)] := hl
  have hinX4 : ∀ w ∈ wsX40, w ∈ wsX4_andAbove := by decide +kernel
  refine lv_iload_n hx hb dX4_andAbove_0 rfl (lv_at hl 1 rfl) ?_
  refine lv_istore_n (lv' := [(2, .int x), (0, .ref qy), (1, .int x)]) hx hb dX4_andAbove_1 rfl hl (by decide) rfl (fun ls hl => ?_)
  refine lv_iconst (v := 0) hx hb dX4_andAbove_2 (by decide) ?_
  refine lv_istore_n (lv' := [(3, .int 0), (2, .int x), (0, .ref qy), (1, .int x)]) hx hb dX4_andAbove_3 rfl hl (by decide) rfl (fun ls hl => ?_)
  suffices loop : ∀ (n k : Nat) (y : Int32), k ≤ N → N < k + n → y = anA be x k → ∀ ls, lv_has ls 4 [(3, .int (nI k)), (2, .int y), (0, .ref qy), (1, .int x)] → W p l e { frames := 0, cells := 0, slots := 0, locals := 0 } s m ([.ref qy, .int x] : List Value).toArray below meth c H0 [] 0 0 (MQ below (roQ (some (.int (anA be x N))) H0) ([.ref qy, .int x] : List Value).toArray s 0 0 (fun _ => False)) (F0 m 4 ls []) from loop (N + 1) 0 x (by omega) (by omega) (by first | rfl | (simp []; done) | (simp []; done)) _ (lv_sub hl [0, 1, 2, 3] rfl)
  intro n
  induction n with
  | zero => intro k y hk1 hk2; exact absurd hk2 (by omega)
  | succ n ih4 =>
    intro k y hk4 hn4 ey ls hl
    refine lv_iload_n hx hb dX4_andAbove_4 rfl (lv_at hl 0 rfl) ?_
    refine lv_aload_n hx hb dX4_andAbove_5 rfl (lv_at hl 2 rfl) ?_
    refine va_get (D := D) (ci := 4) (v := .int (nI N)) (C := RX4) (T := TX4) (N := 7) hx hb hts hinX4 hown hK.1 hP 0 rfl rfl 1 (by decide) (hts (.fieldLink RX4 29 "CairnShellsModel" "layers" "I") (by decide +kernel)) (fun _ h9 => h9) rfl dX4_andAbove_6 ?_
    refine my_geN (x := k) (y := N) (tgt := 35) hx hb dX4_andAbove_9 (by decide) (by omega) (by omega) (fun h1 => ?_) (fun h1 => ?_)
    · obtain rfl : N = k := by omega
      subst ey
      refine lv_iload_n hx hb dX4_andAbove_35 rfl (lv_at hl 1 rfl) ?_
      exact RO_zret hx hb hr hlk hH dX4_andAbove_36 (by rfl) (by first | rfl | simp [h1])
    · refine lv_aload_n hx hb dX4_andAbove_12 rfl (lv_at hl 2 rfl) ?_
      refine va_get (D := D) (ci := 4) (v := .ref qyb) (C := RX4) (T := TX4) (N := 7) hx hb hts hinX4 hown hK.1 hP 0 rfl rfl 3 (by decide) (hts (.fieldLink RX4 13 "CairnShellsModel" "beneath" "[I") (by decide +kernel)) (fun _ h9 => h9) rfl dX4_andAbove_13 ?_
      refine lv_iload_n hx hb dX4_andAbove_16 rfl (lv_at hl 0 rfl) ?_
      refine my_iald (D := D) (j := k) hx hb hK hP 1 rfl (by omega) (by decide) dX4_andAbove_17 ?_
      refine lv_iload_n hx hb dX4_andAbove_18 rfl (lv_at hl 3 rfl) ?_
      refine lv_iand hx hb dX4_andAbove_19 ?_
      refine lv_if_eq (tgt := 29) hx hb dX4_andAbove_20 (by decide) (fun h2 => ?_) (fun h2 => ?_)
      · refine lv_iinc (v := nI (k + 1)) (x := nI k) (lv' := [(3, .int (nI (k + 1))), (2, .int y), (0, .ref qy), (1, .int x)]) hx hb dX4_andAbove_29 hl (k := 0) rfl (nI_1 k) (by decide) rfl (fun ls hl => ?_)
        refine lv_goto (tgt := 4) hx hb dX4_andAbove_32 (by decide) ?_
        exact ih4 (k + 1) y (by omega) (by omega) (by subst ey; first | rfl | simp [anA, h1, h2]) _ (lv_sub hl [0, 1, 2, 3] rfl)
      · refine lv_iload_n hx hb dX4_andAbove_23 rfl (lv_at hl 1 rfl) ?_
        refine lv_iconst (v := 1) hx hb dX4_andAbove_24 (by decide) ?_
        refine lv_iload_n hx hb dX4_andAbove_25 rfl (lv_at hl 0 rfl) ?_
        refine lv_ishl hx hb dX4_andAbove_26 ?_
        refine lv_ior hx hb dX4_andAbove_27 ?_
        refine lv_istore_n (lv' := [(2, .int (y ||| ((1 : Int32) <<< ((nI k) &&& 31)))), (3, .int (nI k)), (0, .ref qy), (1, .int x)]) hx hb dX4_andAbove_28 rfl hl (by decide) rfl (fun ls hl => ?_)
        refine lv_iinc (v := nI (k + 1)) (x := nI k) (lv' := [(3, .int (nI (k + 1))), (2, .int (y ||| ((1 : Int32) <<< ((nI k) &&& 31)))), (0, .ref qy), (1, .int x)]) hx hb dX4_andAbove_29 hl (k := 1) rfl (nI_1 k) (by decide) rfl (fun ls hl => ?_)
        refine lv_goto (tgt := 4) hx hb dX4_andAbove_32 (by decide) ?_
        exact ih4 (k + 1) (y ||| ((1 : Int32) <<< ((nI k) &&& 31))) (by omega) (by omega) (by subst ey; first | rfl | simp [anA, h1, h2]) _ (lv_sub hl [0, 1, 2, 3] rfl)
set_option maxHeartbeats 4000000 in
set_option maxRecDepth 100000 in
theorem c_X4_andBeneath (l : Launch) {D : va_G} {cA : ClassId} {H0 : Heap} {qy qya qyb qyc qyd qye N : Nat} {th : Int32} {be : Nat → Int32} (x : Int32) (hN : N ≤ 14) (hP : va_P D vwCl [(qy, .inr (4, [.int th, .int (nI N), .ref qya, .ref qyb, .ref qyc, .ref qyd, .ref qye])), (qyb, .inl (cA, 14, .inl be))] H0) : RO l yX4_andBeneath wsX4_andBeneath 1 21 [.ref qy, .int x] D cA H0 (some (.int (anB be x N))) := by
  refine RO_of (cc := cX4_andBeneath) (maxL := 4) (ret := (some .int)) (by decide) rfl (Nat.le_of_ble_eq_true rfl) ?_
  intro p e s m below meth c ls hx hb hml hr hown hts hlk hH hK hl
  have hown : s.vm.findClass RX4 = some m.cls := hown
  have hl : lv_has ls 4 [(0, .ref qy), (1, .int x)] := hl
  have hinX4 : ∀ w ∈ wsX40, w ∈ wsX4_andBeneath := by decide +kernel
  refine lv_iload_n hx hb dX4_andBeneath_0 rfl (lv_at hl 1 rfl) ?_
  refine lv_istore_n (lv' := [(2, .int x), (0, .ref qy), (1, .int x)]) hx hb dX4_andBeneath_1 rfl hl (by decide) rfl (fun ls hl => ?_)
  refine lv_iconst (v := 0) hx hb dX4_andBeneath_2 (by decide) ?_
  refine lv_istore_n (lv' := [(3, .int 0), (2, .int x), (0, .ref qy), (1, .int x)]) hx hb dX4_andBeneath_3 rfl hl (by decide) rfl (fun ls hl => ?_)
  suffices loop : ∀ (n k : Nat) (y : Int32), k ≤ N → N < k + n → y = anB be x k → ∀ ls, lv_has ls 4 [(3, .int (nI k)), (2, .int y), (0, .ref qy), (1, .int x)] → W p l e { frames := 1, cells := 0, slots := 0, locals := 21 } s m ([.ref qy, .int x] : List Value).toArray below meth c H0 [] 0 0 (MQ below (roQ (some (.int (anB be x N))) H0) ([.ref qy, .int x] : List Value).toArray s 0 0 (fun _ => False)) (F0 m 4 ls []) from loop (N + 1) 0 x (by omega) (by omega) (by first | rfl | (simp []; done) | (simp []; done)) _ (lv_sub hl [0, 1, 2, 3] rfl)
  intro n
  induction n with
  | zero => intro k y hk1 hk2; exact absurd hk2 (by omega)
  | succ n ih4 =>
    intro k y hk4 hn4 ey ls hl
    refine lv_iload_n hx hb dX4_andBeneath_4 rfl (lv_at hl 0 rfl) ?_
    refine lv_aload_n hx hb dX4_andBeneath_5 rfl (lv_at hl 2 rfl) ?_
    refine va_get (D := D) (ci := 4) (v := .int (nI N)) (C := RX4) (T := TX4) (N := 7) hx hb hts hinX4 hown hK.1 hP 0 rfl rfl 1 (by decide) (hts (.fieldLink RX4 29 "CairnShellsModel" "layers" "I") (by decide +kernel)) (fun _ h9 => h9) rfl dX4_andBeneath_6 ?_
    refine my_geN (x := k) (y := N) (tgt := 35) hx hb dX4_andBeneath_9 (by decide) (by omega) (by omega) (fun h1 => ?_) (fun h1 => ?_)
    · obtain rfl : N = k := by omega
      subst ey
      refine lv_iload_n hx hb dX4_andBeneath_35 rfl (lv_at hl 1 rfl) ?_
      exact RO_zret hx hb hr hlk hH dX4_andBeneath_36 (by rfl) (by first | rfl | simp [h1])
    · refine lv_iload_n hx hb dX4_andBeneath_12 rfl (lv_at hl 3 rfl) ?_
      refine lv_iload_n hx hb dX4_andBeneath_13 rfl (lv_at hl 0 rfl) ?_
      refine RO_go (va_runS (As := [.int x, .int (nI k)]) (rest := []) ⟨hx, hb, hml, hown, hts⟩ (c_X4_has l (D := D) (cA := cA) (H0 := H0) (x := x) (j := k) (hj := by omega)) (va_cwS 2 hts gX4_andBeneath_X4_has rfl rfl rfl (by decide +kernel) ⟨Nat.le_of_ble_eq_true rfl, Nat.le_of_ble_eq_true rfl⟩) (cP_S hK) rfl rfl hl.1 rfl (lv_room (Nat.le_of_ble_eq_true rfl)) dX4_andBeneath_14 ⟨by omega, by omega⟩) ?_
      refine my_ifeq_b (tgt := 29) hx hb dX4_andBeneath_17 (by decide) (fun h2 => ?_) (fun h2 => ?_)
      · refine lv_iinc (v := nI (k + 1)) (x := nI k) (lv' := [(3, .int (nI (k + 1))), (2, .int y), (0, .ref qy), (1, .int x)]) hx hb dX4_andBeneath_29 hl (k := 0) rfl (nI_1 k) (by decide) rfl (fun ls hl => ?_)
        refine lv_goto (tgt := 4) hx hb dX4_andBeneath_32 (by decide) ?_
        exact ih4 (k + 1) y (by omega) (by omega) (by subst ey; first | rfl | simp [anB, h1, h2]) _ (lv_sub hl [0, 1, 2, 3] rfl)
      · refine lv_iload_n hx hb dX4_andBeneath_20 rfl (lv_at hl 1 rfl) ?_
        refine lv_aload_n hx hb dX4_andBeneath_21 rfl (lv_at hl 2 rfl) ?_
        refine va_get (D := D) (ci := 4) (v := .ref qyb) (C := RX4) (T := TX4) (N := 7) hx hb hts hinX4 hown hK.1 hP 0 rfl rfl 3 (by decide) (hts (.fieldLink RX4 13 "CairnShellsModel" "beneath" "[I") (by decide +kernel)) (fun _ h9 => h9) rfl dX4_andBeneath_22 ?_
        refine lv_iload_n hx hb dX4_andBeneath_25 rfl (lv_at hl 0 rfl) ?_
        refine my_iald (D := D) (j := k) hx hb hK hP 1 rfl (by omega) (by decide) dX4_andBeneath_26 ?_
        refine lv_ior hx hb dX4_andBeneath_27 ?_
        refine lv_istore_n (lv' := [(2, .int (y ||| (be k))), (3, .int (nI k)), (0, .ref qy), (1, .int x)]) hx hb dX4_andBeneath_28 rfl hl (by decide) rfl (fun ls hl => ?_)
        refine lv_iinc (v := nI (k + 1)) (x := nI k) (lv' := [(3, .int (nI (k + 1))), (2, .int (y ||| (be k))), (0, .ref qy), (1, .int x)]) hx hb dX4_andBeneath_29 hl (k := 1) rfl (nI_1 k) (by decide) rfl (fun ls hl => ?_)
        refine lv_goto (tgt := 4) hx hb dX4_andBeneath_32 (by decide) ?_
        exact ih4 (k + 1) (y ||| (be k)) (by omega) (by omega) (by subst ey; first | rfl | simp [anB, h1, h2]) _ (lv_sub hl [0, 1, 2, 3] rfl)
set_option maxHeartbeats 4000000 in
set_option maxRecDepth 100000 in
theorem c_X4_isRefused (l : Launch) {D : va_G} {cA : ClassId} {H0 : Heap} {qy qya qyb qyc qyd qye N : Nat} {th : Int32} {al be : Nat → Int32} (i : Nat) (j : Nat) (hi : i < 14) (hj : j < 14) (hP : va_P D vwCl [(qy, .inr (4, [.int th, .int (nI N), .ref qya, .ref qyb, .ref qyc, .ref qyd, .ref qye])), (qya, .inl (cA, 14, .inl al)), (qyb, .inl (cA, 14, .inl be))] H0) : RO l yX4_isRefused wsX4_isRefused 1 21 [.ref qy, .int (nI i), .int (nI j)] D cA H0 (some (.int (bI (bt (al i) j || bt (be j) i)))) := by
  refine RO_of (cc := cX4_isRefused) (maxL := 3) (ret := (some .boolean)) (by decide) rfl (Nat.le_of_ble_eq_true rfl) ?_
  intro p e s m below meth c ls hx hb hml hr hown hts hlk hH hK hl
  have hown : s.vm.findClass RX4 = some m.cls := hown
  have hl : lv_has ls 3 [(0, .ref qy), (1, .int (nI i)), (2, .int (nI j))] := hl
  have hinX4 : ∀ w ∈ wsX40, w ∈ wsX4_isRefused := by decide +kernel
  refine lv_aload_n hx hb dX4_isRefused_0 rfl (lv_at hl 0 rfl) ?_
  refine va_get (D := D) (ci := 4) (v := .ref qya) (C := RX4) (T := TX4) (N := 7) hx hb hts hinX4 hown hK.1 hP 0 rfl rfl 2 (by decide) (hts (.fieldLink RX4 9 "CairnShellsModel" "alike" "[I") (by decide +kernel)) (fun _ h9 => h9) rfl dX4_isRefused_1 ?_
  refine lv_iload_n hx hb dX4_isRefused_4 rfl (lv_at hl 1 rfl) ?_
  refine my_iald (D := D) (j := i) hx hb hK hP 1 rfl (by omega) (by decide) dX4_isRefused_5 ?_
  refine lv_iload_n hx hb dX4_isRefused_6 rfl (lv_at hl 2 rfl) ?_
  refine RO_go (va_runS (As := [.int (al i), .int (nI j)]) (rest := []) ⟨hx, hb, hml, hown, hts⟩ (c_X4_has l (D := D) (cA := cA) (H0 := H0) (x := al i) (j := j) (hj := by omega)) (va_cwS 2 hts gX4_isRefused_X4_has rfl rfl rfl (by decide +kernel) ⟨Nat.le_of_ble_eq_true rfl, Nat.le_of_ble_eq_true rfl⟩) (cP_S hK) rfl rfl hl.1 rfl (lv_room (Nat.le_of_ble_eq_true rfl)) dX4_isRefused_7 ⟨by omega, by omega⟩) ?_
  refine my_ifne_b (tgt := 26) hx hb dX4_isRefused_10 (by decide) (fun h1 => ?_) (fun h1 => ?_)
  · refine lv_iconst (v := 1) hx hb dX4_isRefused_26 (by decide) ?_
    refine lv_goto (tgt := 31) hx hb dX4_isRefused_27 (by decide) ?_
    exact RO_zret hx hb hr hlk hH dX4_isRefused_31 (by decide) (by first | exact bI_of h1 | exact bI_no h1 | simp [bI, h1])
  · refine lv_aload_n hx hb dX4_isRefused_13 rfl (lv_at hl 0 rfl) ?_
    refine va_get (D := D) (ci := 4) (v := .ref qyb) (C := RX4) (T := TX4) (N := 7) hx hb hts hinX4 hown hK.1 hP 0 rfl rfl 3 (by decide) (hts (.fieldLink RX4 13 "CairnShellsModel" "beneath" "[I") (by decide +kernel)) (fun _ h9 => h9) rfl dX4_isRefused_14 ?_
    refine lv_iload_n hx hb dX4_isRefused_17 rfl (lv_at hl 2 rfl) ?_
    refine my_iald (D := D) (j := j) hx hb hK hP 2 rfl (by omega) (by decide) dX4_isRefused_18 ?_
    refine lv_iload_n hx hb dX4_isRefused_19 rfl (lv_at hl 1 rfl) ?_
    refine RO_go (va_runS (As := [.int (be j), .int (nI i)]) (rest := []) ⟨hx, hb, hml, hown, hts⟩ (c_X4_has l (D := D) (cA := cA) (H0 := H0) (x := be j) (j := i) (hj := by omega)) (va_cwS 2 hts gX4_isRefused_X4_has rfl rfl rfl (by decide +kernel) ⟨Nat.le_of_ble_eq_true rfl, Nat.le_of_ble_eq_true rfl⟩) (cP_S hK) rfl rfl hl.1 rfl (lv_room (Nat.le_of_ble_eq_true rfl)) dX4_isRefused_20 ⟨by omega, by omega⟩) ?_
    refine my_ifeq_b (tgt := 30) hx hb dX4_isRefused_23 (by decide) (fun h2 => ?_) (fun h2 => ?_)
    · refine lv_iconst (v := 0) hx hb dX4_isRefused_30 (by decide) ?_
      exact RO_zret hx hb hr hlk hH dX4_isRefused_31 (by decide) (by first | exact bI_of h2 | exact bI_no h2 | simp [bI, h1, h2])
    · refine lv_iconst (v := 1) hx hb dX4_isRefused_26 (by decide) ?_
      refine lv_goto (tgt := 31) hx hb dX4_isRefused_27 (by decide) ?_
      exact RO_zret hx hb hr hlk hH dX4_isRefused_31 (by decide) (by first | exact bI_of h2 | exact bI_no h2 | simp [bI, h1, h2])
set_option maxHeartbeats 4000000 in
set_option maxRecDepth 100000 in
theorem c_X4_lay (l : Launch) {D : va_G} {cA : ClassId} {H0 : Heap} {qy qya qyb qyc qyd qye N : Nat} {th : Int32} {be : Nat → Int32} (x : Int32) (y : Int32) (hN : N ≤ 14) (hP : va_P D vwCl [(qy, .inr (4, [.int th, .int (nI N), .ref qya, .ref qyb, .ref qyc, .ref qyd, .ref qye])), (qyb, .inl (cA, 14, .inl be))] H0) (hD0 : va_D (fun _ => True) [(qy, .inr (4, [.int th, .int (nI N), .ref qya, .ref qyb, .ref qyc, .ref qyd, .ref qye])), (qyb, .inl (cA, 14, .inl be))]) : WR l yX4_lay wsX4_lay 1 21 0 0 [.ref qy, .int x, .int y] D cA H0 none [(qy, .inr (4, [.int th, .int (nI N), .ref qya, .ref qyb, .ref qyc, .ref qyd, .ref qye])), (qyb, .inl (cA, 14, .inl be))] [(qy, .inr (4, [.int th, .int (nI N), .ref qya, .ref qyb, .ref qyc, .ref qyd, .ref qye])), (qyb, .inl (cA, 14, .inl (lkU be x y N)))] := by
  refine WR_of (cc := cX4_lay) (maxL := 4) (ret := none) (by decide) rfl (Nat.le_of_ble_eq_true rfl) ?_
  intro p e s m below meth c ls hx hb hml hr hown hts hlk hin2 hH hK hl
  have hown : s.vm.findClass RX4 = some m.cls := hown
  have hl : lv_has ls 4 [(0, .ref qy), (1, .int x), (2, .int y)] := hl
  have hinX4 : ∀ w ∈ wsX40, w ∈ wsX4_lay := by decide +kernel
  have hD := hD0.self (sz := H0.size)
  obtain ⟨A, hAe⟩ : ∃ A, A = va_A [(qy, .inr (4, [.int th, .int (nI N), .ref qya, .ref qyb, .ref qyc, .ref qyd, .ref qye])), (qyb, .inl (cA, 14, .inl be))] H0.size := ⟨_, rfl⟩
  rw [← hAe] at hD ⊢
  have hA : ∀ q : Nat, H0.size ≤ q → A q := fun q h => by rw [hAe]; exact Or.inr h
  have hS : va_S A H0 H0 [] := va_S.rf
  refine lv_iconst (v := 0) hx hb dX4_lay_0 (by decide) ?_
  refine lv_istore_n (lv' := [(3, .int 0), (0, .ref qy), (1, .int x), (2, .int y)]) hx hb dX4_lay_1 rfl hl (by decide) rfl (fun ls hl => ?_)
  suffices loop : ∀ (n k : Nat) (f1 : Nat → Int32), k ≤ N → N < k + n → f1 = lkU be x y k → ∀ (H : Heap) (locs : List Loc), va_P D vwCl [(qy, .inr (4, [.int th, .int (nI N), .ref qya, .ref qyb, .ref qyc, .ref qyd, .ref qye])), (qyb, .inl (cA, 14, .inl f1))] H → va_D A [(qy, .inr (4, [.int th, .int (nI N), .ref qya, .ref qyb, .ref qyc, .ref qyd, .ref qye])), (qyb, .inl (cA, 14, .inl f1))] → va_S A H0 H locs → ∀ ls, lv_has ls 4 [(3, .int (nI k)), (0, .ref qy), (1, .int x), (2, .int y)] → W p l e { frames := 1, cells := 0, slots := 0, locals := 21 } s m ([.ref qy, .int x, .int y] : List Value).toArray below meth c H locs (0) (0) (MQ below (wrQ none D [(qy, .inr (4, [.int th, .int (nI N), .ref qya, .ref qyb, .ref qyc, .ref qyd, .ref qye])), (qyb, .inl (cA, 14, .inl be))] [(qy, .inr (4, [.int th, .int (nI N), .ref qya, .ref qyb, .ref qyc, .ref qyd, .ref qye])), (qyb, .inl (cA, 14, .inl (lkU be x y N)))] H0) ([.ref qy, .int x, .int y] : List Value).toArray s 0 0 A) (F0 m 2 ls []) from loop (N + 1) 0 be (by omega) (by omega) (by first | rfl | (simp [lkU_0]; done) | (simp [lkU_0]; done)) _ _ hP hD hS _ (lv_sub hl [0, 1, 2, 3] rfl)
  intro n
  induction n with
  | zero => intro k f1 hk1 hk2; exact absurd hk2 (by omega)
  | succ n ih2 =>
    intro k f1 hk2 hn2 ef1 H locs hP hD hS ls hl
    refine lv_iload_n hx hb dX4_lay_2 rfl (lv_at hl 0 rfl) ?_
    refine lv_aload_n hx hb dX4_lay_3 rfl (lv_at hl 1 rfl) ?_
    refine va_get (D := D) (ci := 4) (v := .int (nI N)) (C := RX4) (T := TX4) (N := 7) hx hb hts hinX4 hown hK.1 hP 0 rfl rfl 1 (by decide) (hts (.fieldLink RX4 29 "CairnShellsModel" "layers" "I") (by decide +kernel)) (fun _ h9 => h9) rfl dX4_lay_4 ?_
    refine my_geN (x := k) (y := N) (tgt := 34) hx hb dX4_lay_7 (by decide) (by omega) (by omega) (fun h1 => ?_) (fun h1 => ?_)
    · obtain rfl : N = k := by omega
      subst ef1
      exact WR_vret hAe hx hb hr hlk hH dX4_lay_34 (by omega) (by omega) (hP.sub [0, 1] rfl) hS
    · refine lv_iload_n hx hb dX4_lay_10 rfl (lv_at hl 2 rfl) ?_
      refine lv_iload_n hx hb dX4_lay_11 rfl (lv_at hl 0 rfl) ?_
      refine RO_go (va_runS (As := [.int x, .int (nI k)]) (rest := []) ⟨hx, hb, hml, hown, hts⟩ (c_X4_has l (D := D) (cA := cA) (H0 := H) (x := x) (j := k) (hj := by omega)) (va_cwS 2 hts gX4_lay_X4_has rfl rfl rfl (by decide +kernel) ⟨Nat.le_of_ble_eq_true rfl, Nat.le_of_ble_eq_true rfl⟩) (cP_S hK) rfl rfl hl.1 rfl (lv_room (Nat.le_of_ble_eq_true rfl)) dX4_lay_12 ⟨by omega, by omega⟩) ?_
      refine my_ifeq_b (tgt := 28) hx hb dX4_lay_15 (by decide) (fun h2 => ?_) (fun h2 => ?_)
      · refine lv_iinc (v := nI (k + 1)) (x := nI k) (lv' := [(3, .int (nI (k + 1))), (0, .ref qy), (1, .int x), (2, .int y)]) hx hb dX4_lay_28 hl (k := 0) rfl (nI_1 k) (by decide) rfl (fun ls hl => ?_)
        refine lv_goto (tgt := 2) hx hb dX4_lay_31 (by decide) ?_
        exact ih2 (k + 1) f1 (by omega) (by omega) (by subst ef1; first | exact lkU_t h2 | exact lkU_f h2) _ _ hP hD hS _ (lv_sub hl [0, 1, 2, 3] rfl)
      · refine lv_aload_n hx hb dX4_lay_18 rfl (lv_at hl 1 rfl) ?_
        refine va_get (D := D) (ci := 4) (v := .ref qyb) (C := RX4) (T := TX4) (N := 7) hx hb hts hinX4 hown hK.1 hP 0 rfl rfl 3 (by decide) (hts (.fieldLink RX4 13 "CairnShellsModel" "beneath" "[I") (by decide +kernel)) (fun _ h9 => h9) rfl dX4_lay_19 ?_
        refine lv_iload_n hx hb dX4_lay_22 rfl (lv_at hl 0 rfl) ?_
        refine lv_dup2_11 hx hb dX4_lay_23 rfl rfl ?_
        refine my_iald (D := D) (j := k) hx hb hK hP 1 rfl (by omega) (by decide) dX4_lay_24 ?_
        refine lv_iload_n hx hb dX4_lay_25 rfl (lv_at hl 3 rfl) ?_
        refine lv_ior hx hb dX4_lay_26 ?_
        refine my_iast (D := D) (j := k) hx hb hK hP hD hS 1 rfl (by omega) (by decide) dX4_lay_27 (fun H locs hP hD hS => ?_)
        have hP : va_P D vwCl [(qy, .inr (4, [.int th, .int (nI N), .ref qya, .ref qyb, .ref qyc, .ref qyd, .ref qye])), (qyb, .inl (cA, 14, .inl (upd f1 k ((f1 k) ||| y))))] H := hP
        have hD : va_D A [(qy, .inr (4, [.int th, .int (nI N), .ref qya, .ref qyb, .ref qyc, .ref qyd, .ref qye])), (qyb, .inl (cA, 14, .inl (upd f1 k ((f1 k) ||| y))))] := hD
        refine lv_iinc (v := nI (k + 1)) (x := nI k) (lv' := [(3, .int (nI (k + 1))), (0, .ref qy), (1, .int x), (2, .int y)]) hx hb dX4_lay_28 hl (k := 0) rfl (nI_1 k) (by decide) rfl (fun ls hl => ?_)
        refine lv_goto (tgt := 2) hx hb dX4_lay_31 (by decide) ?_
        exact ih2 (k + 1) (upd f1 k ((f1 k) ||| y)) (by omega) (by omega) (by subst ef1; first | exact lkU_t h2 | exact lkU_f h2) _ _ hP hD hS _ (lv_sub hl [0, 1, 2, 3] rfl)
set_option maxHeartbeats 4000000 in
set_option maxRecDepth 100000 in
theorem c_X4_isDated (l : Launch) {D : va_G} {cA : ClassId} {H0 : Heap} {qy qya qyb qyc qyd qye N : Nat} {th : Int32} {fr : Nat → Int32} (j : Nat) (hj : j < 14) (hP : va_P D vwCl [(qy, .inr (4, [.int th, .int (nI N), .ref qya, .ref qyb, .ref qyc, .ref qyd, .ref qye])), (qyd, .inl (cA, 14, .inl fr))] H0) : RO l yX4_isDated wsX4_isDated 0 0 [.ref qy, .int (nI j)] D cA H0 (some (.int (bI (dtd fr j)))) := by
  refine RO_of (cc := cX4_isDated) (maxL := 2) (ret := (some .boolean)) (by decide) rfl (Nat.le_of_ble_eq_true rfl) ?_
  intro p e s m below meth c ls hx hb hml hr hown hts hlk hH hK hl
  have hown : s.vm.findClass RX4 = some m.cls := hown
  have hl : lv_has ls 2 [(0, .ref qy), (1, .int (nI j))] := hl
  have hinX4 : ∀ w ∈ wsX40, w ∈ wsX4_isDated := by decide +kernel
  refine lv_aload_n hx hb dX4_isDated_0 rfl (lv_at hl 0 rfl) ?_
  refine va_get (D := D) (ci := 4) (v := .ref qyd) (C := RX4) (T := TX4) (N := 7) hx hb hts hinX4 hown hK.1 hP 0 rfl rfl 5 (by decide) (hts (.fieldLink RX4 19 "CairnShellsModel" "froms" "[I") (by decide +kernel)) (fun _ h9 => h9) rfl dX4_isDated_1 ?_
  refine lv_iload_n hx hb dX4_isDated_4 rfl (lv_at hl 1 rfl) ?_
  refine my_iald (D := D) (j := j) hx hb hK hP 1 rfl (by omega) (by decide) dX4_isDated_5 ?_
  refine lv_iconst (v := (-1)) hx hb dX4_isDated_6 (by decide) ?_
  refine lv_icmp_eq (tgt := 14) hx hb dX4_isDated_7 (by decide) (fun h1 => ?_) (fun h1 => ?_)
  · refine lv_iconst (v := 0) hx hb dX4_isDated_14 (by decide) ?_
    exact RO_zret hx hb hr hlk hH dX4_isDated_15 (by decide) (by first | rfl | simp [bI, dtd, h1])
  · refine lv_iconst (v := 1) hx hb dX4_isDated_10 (by decide) ?_
    refine lv_goto (tgt := 15) hx hb dX4_isDated_11 (by decide) ?_
    exact RO_zret hx hb hr hlk hH dX4_isDated_15 (by decide) (by first | rfl | simp [bI, dtd, h1])
set_option maxHeartbeats 4000000 in
set_option maxRecDepth 100000 in
theorem c_X4_from (l : Launch) {D : va_G} {cA : ClassId} {H0 : Heap} {qy qya qyb qyc qyd qye N : Nat} {th : Int32} {al be fr : Nat → Int32} (j : Nat) (hj : j < 14) (hN : N ≤ 14) (hP : va_P D vwCl [(qy, .inr (4, [.int th, .int (nI N), .ref qya, .ref qyb, .ref qyc, .ref qyd, .ref qye])), (qya, .inl (cA, 14, .inl al)), (qyb, .inl (cA, 14, .inl be)), (qyd, .inl (cA, 14, .inl fr))] H0) : RO l yX4_from wsX4_from 1 21 [.ref qy, .int (nI j)] D cA H0 (some (.int (mF fr (al j ||| be j) N))) := by
  refine RO_of (cc := cX4_from) (maxL := 4) (ret := (some .int)) (by decide) rfl (Nat.le_of_ble_eq_true rfl) ?_
  intro p e s m below meth c ls hx hb hml hr hown hts hlk hH hK hl
  have hown : s.vm.findClass RX4 = some m.cls := hown
  have hl : lv_has ls 4 [(0, .ref qy), (1, .int (nI j))] := hl
  have hinX4 : ∀ w ∈ wsX40, w ∈ wsX4_from := by decide +kernel
  refine lv_iconst (v := 0) hx hb dX4_from_0 (by decide) ?_
  refine lv_istore_n (lv' := [(2, .int 0), (0, .ref qy), (1, .int (nI j))]) hx hb dX4_from_1 rfl hl (by decide) rfl (fun ls hl => ?_)
  refine lv_iconst (v := 0) hx hb dX4_from_2 (by decide) ?_
  refine lv_istore_n (lv' := [(3, .int 0), (2, .int 0), (0, .ref qy), (1, .int (nI j))]) hx hb dX4_from_3 rfl hl (by decide) rfl (fun ls hl => ?_)
  suffices loop : ∀ (n k : Nat) (y : Int32), k ≤ N → N < k + n → y = mF fr (al j ||| be j) k → ∀ ls, lv_has ls 4 [(3, .int (nI k)), (2, .int y), (0, .ref qy), (1, .int (nI j))] → W p l e { frames := 1, cells := 0, slots := 0, locals := 21 } s m ([.ref qy, .int (nI j)] : List Value).toArray below meth c H0 [] 0 0 (MQ below (roQ (some (.int (mF fr (al j ||| be j) N))) H0) ([.ref qy, .int (nI j)] : List Value).toArray s 0 0 (fun _ => False)) (F0 m 4 ls []) from loop (N + 1) 0 0 (by omega) (by omega) (by first | rfl | (simp []; done) | (simp []; done)) _ (lv_sub hl [0, 1, 2, 3] rfl)
  intro n
  induction n with
  | zero => intro k y hk1 hk2; exact absurd hk2 (by omega)
  | succ n ih4 =>
    intro k y hk4 hn4 ey ls hl
    refine lv_iload_n hx hb dX4_from_4 rfl (lv_at hl 0 rfl) ?_
    refine lv_aload_n hx hb dX4_from_5 rfl (lv_at hl 2 rfl) ?_
    refine va_get (D := D) (ci := 4) (v := .int (nI N)) (C := RX4) (T := TX4) (N := 7) hx hb hts hinX4 hown hK.1 hP 0 rfl rfl 1 (by decide) (hts (.fieldLink RX4 29 "CairnShellsModel" "layers" "I") (by decide +kernel)) (fun _ h9 => h9) rfl dX4_from_6 ?_
    refine my_geN (x := k) (y := N) (tgt := 57) hx hb dX4_from_9 (by decide) (by omega) (by omega) (fun h1 => ?_) (fun h1 => ?_)
    · obtain rfl : N = k := by omega
      subst ey
      refine lv_iload_n hx hb dX4_from_57 rfl (lv_at hl 1 rfl) ?_
      exact RO_zret hx hb hr hlk hH dX4_from_58 (by rfl) (by first | rfl | simp [h1])
    · refine lv_aload_n hx hb dX4_from_12 rfl (lv_at hl 2 rfl) ?_
      refine lv_iload_n hx hb dX4_from_13 rfl (lv_at hl 0 rfl) ?_
      refine RO_go (va_runV (As := [.int (nI k)]) (rest := []) ⟨hx, hb, hml, hown, hts⟩ (c_X4_isDated l (D := D) (cA := cA) (H0 := H0) (j := k) (hj := by omega) (hP := hP.sub (ws' := [(qy, .inr (4, [.int th, .int (nI N), .ref qya, .ref qyb, .ref qyc, .ref qyd, .ref qye])), (qyd, .inl (cA, 14, .inl fr))]) [0, 3] rfl)) (cwV 1 hts gX4_from_X4_isDated rfl rfl rfl (by decide +kernel) ⟨Nat.le_of_ble_eq_true rfl, Nat.le_of_ble_eq_true rfl⟩) (cP_V hK (va_recv hK.1 hP (ci := 4) (q0 := 0) rfl rfl)) rfl rfl hl.1 rfl (lv_room (Nat.le_of_ble_eq_true rfl)) dX4_from_14 ⟨by omega, by omega⟩) ?_
      refine my_ifeq_b (tgt := 51) hx hb dX4_from_17 (by decide) (fun h2 => ?_) (fun h2 => ?_)
      · refine lv_iinc (v := nI (k + 1)) (x := nI k) (lv' := [(3, .int (nI (k + 1))), (2, .int y), (0, .ref qy), (1, .int (nI j))]) hx hb dX4_from_51 hl (k := 0) rfl (nI_1 k) (by decide) rfl (fun ls hl => ?_)
        refine lv_goto (tgt := 4) hx hb dX4_from_54 (by decide) ?_
        exact ih4 (k + 1) y (by omega) (by omega) (by subst ey; first | rfl | simp [mF, imax, h1, h2]) _ (lv_sub hl [0, 1, 2, 3] rfl)
      · refine lv_aload_n hx hb dX4_from_20 rfl (lv_at hl 2 rfl) ?_
        refine va_get (D := D) (ci := 4) (v := .ref qya) (C := RX4) (T := TX4) (N := 7) hx hb hts hinX4 hown hK.1 hP 0 rfl rfl 2 (by decide) (hts (.fieldLink RX4 9 "CairnShellsModel" "alike" "[I") (by decide +kernel)) (fun _ h9 => h9) rfl dX4_from_21 ?_
        refine lv_iload_n hx hb dX4_from_24 rfl (lv_at hl 3 rfl) ?_
        refine my_iald (D := D) (j := j) hx hb hK hP 1 rfl (by omega) (by decide) dX4_from_25 ?_
        refine lv_aload_n hx hb dX4_from_26 rfl (lv_at hl 2 rfl) ?_
        refine va_get (D := D) (ci := 4) (v := .ref qyb) (C := RX4) (T := TX4) (N := 7) hx hb hts hinX4 hown hK.1 hP 0 rfl rfl 3 (by decide) (hts (.fieldLink RX4 13 "CairnShellsModel" "beneath" "[I") (by decide +kernel)) (fun _ h9 => h9) rfl dX4_from_27 ?_
        refine lv_iload_n hx hb dX4_from_30 rfl (lv_at hl 3 rfl) ?_
        refine my_iald (D := D) (j := j) hx hb hK hP 2 rfl (by omega) (by decide) dX4_from_31 ?_
        refine lv_ior hx hb dX4_from_32 ?_
        refine lv_iload_n hx hb dX4_from_33 rfl (lv_at hl 0 rfl) ?_
        refine RO_go (va_runS (As := [.int ((al j) ||| (be j)), .int (nI k)]) (rest := []) ⟨hx, hb, hml, hown, hts⟩ (c_X4_has l (D := D) (cA := cA) (H0 := H0) (x := (al j) ||| (be j)) (j := k) (hj := by omega)) (va_cwS 2 hts gX4_from_X4_has rfl rfl rfl (by decide +kernel) ⟨Nat.le_of_ble_eq_true rfl, Nat.le_of_ble_eq_true rfl⟩) (cP_S hK) rfl rfl hl.1 rfl (lv_room (Nat.le_of_ble_eq_true rfl)) dX4_from_34 ⟨by omega, by omega⟩) ?_
        refine my_ifeq_b (tgt := 51) hx hb dX4_from_37 (by decide) (fun h3 => ?_) (fun h3 => ?_)
        · refine lv_iinc (v := nI (k + 1)) (x := nI k) (lv' := [(3, .int (nI (k + 1))), (2, .int y), (0, .ref qy), (1, .int (nI j))]) hx hb dX4_from_51 hl (k := 0) rfl (nI_1 k) (by decide) rfl (fun ls hl => ?_)
          refine lv_goto (tgt := 4) hx hb dX4_from_54 (by decide) ?_
          exact ih4 (k + 1) y (by omega) (by omega) (by subst ey; first | rfl | simp [mF, imax, h1, h2, h3]) _ (lv_sub hl [0, 1, 2, 3] rfl)
        · refine lv_iload_n hx hb dX4_from_40 rfl (lv_at hl 1 rfl) ?_
          refine lv_aload_n hx hb dX4_from_41 rfl (lv_at hl 2 rfl) ?_
          refine va_get (D := D) (ci := 4) (v := .ref qyd) (C := RX4) (T := TX4) (N := 7) hx hb hts hinX4 hown hK.1 hP 0 rfl rfl 5 (by decide) (hts (.fieldLink RX4 19 "CairnShellsModel" "froms" "[I") (by decide +kernel)) (fun _ h9 => h9) rfl dX4_from_42 ?_
          refine lv_iload_n hx hb dX4_from_45 rfl (lv_at hl 0 rfl) ?_
          refine my_iald (D := D) (j := k) hx hb hK hP 3 rfl (by omega) (by decide) dX4_from_46 ?_
          refine va_mmax hx hb (hml.trans hl.1.symm) hown (hts (.methodLink RX4 67 Lib.Math.max.name) (by decide +kernel)) (hts (.static Lib.Math.max.name) (by decide +kernel)) (hts (.initialized "java/lang/Math") (by decide +kernel)) (hts (.code Lib.Math.max.name Lib.Math.max.code 2 (some .int)) (by decide +kernel)) (Nat.le_of_ble_eq_true rfl) (Nat.le_of_ble_eq_true rfl) (by omega) (by omega) dX4_from_47 ?_
          refine lv_istore_n (lv' := [(2, .int (imax y (fr k))), (3, .int (nI k)), (0, .ref qy), (1, .int (nI j))]) hx hb dX4_from_50 rfl hl (by decide) rfl (fun ls hl => ?_)
          refine lv_iinc (v := nI (k + 1)) (x := nI k) (lv' := [(3, .int (nI (k + 1))), (2, .int (imax y (fr k))), (0, .ref qy), (1, .int (nI j))]) hx hb dX4_from_51 hl (k := 1) rfl (nI_1 k) (by decide) rfl (fun ls hl => ?_)
          refine lv_goto (tgt := 4) hx hb dX4_from_54 (by decide) ?_
          exact ih4 (k + 1) (imax y (fr k)) (by omega) (by omega) (by subst ey; first | rfl | simp [mF, imax, h1, h2, h3]) _ (lv_sub hl [0, 1, 2, 3] rfl)
set_option maxHeartbeats 4000000 in
set_option maxRecDepth 100000 in
theorem c_X4_to (l : Launch) {D : va_G} {cA : ClassId} {H0 : Heap} {qy qya qyb qyc qyd qye N : Nat} {th : Int32} {al be fr tt : Nat → Int32} (j : Nat) (hj : j < 14) (hN : N ≤ 14) (hP : va_P D vwCl [(qy, .inr (4, [.int th, .int (nI N), .ref qya, .ref qyb, .ref qyc, .ref qyd, .ref qye])), (qya, .inl (cA, 14, .inl al)), (qyb, .inl (cA, 14, .inl be)), (qyd, .inl (cA, 14, .inl fr)), (qye, .inl (cA, 14, .inl tt))] H0) : RO l yX4_to wsX4_to 1 21 [.ref qy, .int (nI j)] D cA H0 (some (.int (mT al be fr tt j N))) := by
  refine RO_of (cc := cX4_to) (maxL := 4) (ret := (some .int)) (by decide) rfl (Nat.le_of_ble_eq_true rfl) ?_
  intro p e s m below meth c ls hx hb hml hr hown hts hlk hH hK hl
  have hown : s.vm.findClass RX4 = some m.cls := hown
  have hl : lv_has ls 4 [(0, .ref qy), (1, .int (nI j))] := hl
  have hinX4 : ∀ w ∈ wsX40, w ∈ wsX4_to := by decide +kernel
  refine lv_sipush (v := 9999) hx hb dX4_to_0 (by decide) ?_
  refine lv_istore_n (lv' := [(2, .int 9999), (0, .ref qy), (1, .int (nI j))]) hx hb dX4_to_3 rfl hl (by decide) rfl (fun ls hl => ?_)
  refine lv_iconst (v := 0) hx hb dX4_to_4 (by decide) ?_
  refine lv_istore_n (lv' := [(3, .int 0), (2, .int 9999), (0, .ref qy), (1, .int (nI j))]) hx hb dX4_to_5 rfl hl (by decide) rfl (fun ls hl => ?_)
  suffices loop : ∀ (n k : Nat) (y : Int32), k ≤ N → N < k + n → y = mT al be fr tt j k → ∀ ls, lv_has ls 4 [(3, .int (nI k)), (2, .int y), (0, .ref qy), (1, .int (nI j))] → W p l e { frames := 1, cells := 0, slots := 0, locals := 21 } s m ([.ref qy, .int (nI j)] : List Value).toArray below meth c H0 [] 0 0 (MQ below (roQ (some (.int (mT al be fr tt j N))) H0) ([.ref qy, .int (nI j)] : List Value).toArray s 0 0 (fun _ => False)) (F0 m 6 ls []) from loop (N + 1) 0 9999 (by omega) (by omega) (by first | rfl | (simp []; done) | (simp []; done)) _ (lv_sub hl [0, 1, 2, 3] rfl)
  intro n
  induction n with
  | zero => intro k y hk1 hk2; exact absurd hk2 (by omega)
  | succ n ih6 =>
    intro k y hk6 hn6 ey ls hl
    refine lv_iload_n hx hb dX4_to_6 rfl (lv_at hl 0 rfl) ?_
    refine lv_aload_n hx hb dX4_to_7 rfl (lv_at hl 2 rfl) ?_
    refine va_get (D := D) (ci := 4) (v := .int (nI N)) (C := RX4) (T := TX4) (N := 7) hx hb hts hinX4 hown hK.1 hP 0 rfl rfl 1 (by decide) (hts (.fieldLink RX4 29 "CairnShellsModel" "layers" "I") (by decide +kernel)) (fun _ h9 => h9) rfl dX4_to_8 ?_
    refine my_geN (x := k) (y := N) (tgt := 65) hx hb dX4_to_11 (by decide) (by omega) (by omega) (fun h1 => ?_) (fun h1 => ?_)
    · obtain rfl : N = k := by omega
      subst ey
      refine lv_iload_n hx hb dX4_to_65 rfl (lv_at hl 1 rfl) ?_
      exact RO_zret hx hb hr hlk hH dX4_to_66 (by rfl) (by first | rfl | simp [h1])
    · refine lv_aload_n hx hb dX4_to_14 rfl (lv_at hl 2 rfl) ?_
      refine lv_iload_n hx hb dX4_to_15 rfl (lv_at hl 0 rfl) ?_
      refine RO_go (va_runV (As := [.int (nI k)]) (rest := []) ⟨hx, hb, hml, hown, hts⟩ (c_X4_isDated l (D := D) (cA := cA) (H0 := H0) (j := k) (hj := by omega) (hP := hP.sub (ws' := [(qy, .inr (4, [.int th, .int (nI N), .ref qya, .ref qyb, .ref qyc, .ref qyd, .ref qye])), (qyd, .inl (cA, 14, .inl fr))]) [0, 3] rfl)) (cwV 1 hts gX4_to_X4_isDated rfl rfl rfl (by decide +kernel) ⟨Nat.le_of_ble_eq_true rfl, Nat.le_of_ble_eq_true rfl⟩) (cP_V hK (va_recv hK.1 hP (ci := 4) (q0 := 0) rfl rfl)) rfl rfl hl.1 rfl (lv_room (Nat.le_of_ble_eq_true rfl)) dX4_to_16 ⟨by omega, by omega⟩) ?_
      refine my_ifeq_b (tgt := 59) hx hb dX4_to_19 (by decide) (fun h2 => ?_) (fun h2 => ?_)
      · refine lv_iinc (v := nI (k + 1)) (x := nI k) (lv' := [(3, .int (nI (k + 1))), (2, .int y), (0, .ref qy), (1, .int (nI j))]) hx hb dX4_to_59 hl (k := 0) rfl (nI_1 k) (by decide) rfl (fun ls hl => ?_)
        refine lv_goto (tgt := 6) hx hb dX4_to_62 (by decide) ?_
        exact ih6 (k + 1) y (by omega) (by omega) (by subst ey; first | rfl | simp [mT, imin, h1, h2]) _ (lv_sub hl [0, 1, 2, 3] rfl)
      · refine lv_aload_n hx hb dX4_to_22 rfl (lv_at hl 2 rfl) ?_
        refine va_get (D := D) (ci := 4) (v := .ref qya) (C := RX4) (T := TX4) (N := 7) hx hb hts hinX4 hown hK.1 hP 0 rfl rfl 2 (by decide) (hts (.fieldLink RX4 9 "CairnShellsModel" "alike" "[I") (by decide +kernel)) (fun _ h9 => h9) rfl dX4_to_23 ?_
        refine lv_iload_n hx hb dX4_to_26 rfl (lv_at hl 3 rfl) ?_
        refine my_iald (D := D) (j := j) hx hb hK hP 1 rfl (by omega) (by decide) dX4_to_27 ?_
        refine lv_iload_n hx hb dX4_to_28 rfl (lv_at hl 0 rfl) ?_
        refine RO_go (va_runS (As := [.int (al j), .int (nI k)]) (rest := []) ⟨hx, hb, hml, hown, hts⟩ (c_X4_has l (D := D) (cA := cA) (H0 := H0) (x := al j) (j := k) (hj := by omega)) (va_cwS 2 hts gX4_to_X4_has rfl rfl rfl (by decide +kernel) ⟨Nat.le_of_ble_eq_true rfl, Nat.le_of_ble_eq_true rfl⟩) (cP_S hK) rfl rfl hl.1 rfl (lv_room (Nat.le_of_ble_eq_true rfl)) dX4_to_29 ⟨by omega, by omega⟩) ?_
        refine my_ifne_b (tgt := 48) hx hb dX4_to_32 (by decide) (fun h3 => ?_) (fun h3 => ?_)
        · refine lv_iload_n hx hb dX4_to_48 rfl (lv_at hl 1 rfl) ?_
          refine lv_aload_n hx hb dX4_to_49 rfl (lv_at hl 2 rfl) ?_
          refine va_get (D := D) (ci := 4) (v := .ref qye) (C := RX4) (T := TX4) (N := 7) hx hb hts hinX4 hown hK.1 hP 0 rfl rfl 6 (by decide) (hts (.fieldLink RX4 22 "CairnShellsModel" "tos" "[I") (by decide +kernel)) (fun _ h9 => h9) rfl dX4_to_50 ?_
          refine lv_iload_n hx hb dX4_to_53 rfl (lv_at hl 0 rfl) ?_
          refine my_iald (D := D) (j := k) hx hb hK hP 4 rfl (by omega) (by decide) dX4_to_54 ?_
          refine va_mmin hx hb (hml.trans hl.1.symm) hown (hts (.methodLink RX4 73 Lib.Math.min.name) (by decide +kernel)) (hts (.static Lib.Math.min.name) (by decide +kernel)) (hts (.initialized "java/lang/Math") (by decide +kernel)) (hts (.code Lib.Math.min.name Lib.Math.min.code 2 (some .int)) (by decide +kernel)) (Nat.le_of_ble_eq_true rfl) (Nat.le_of_ble_eq_true rfl) (by omega) (by omega) dX4_to_55 ?_
          refine lv_istore_n (lv' := [(2, .int (imin y (tt k))), (3, .int (nI k)), (0, .ref qy), (1, .int (nI j))]) hx hb dX4_to_58 rfl hl (by decide) rfl (fun ls hl => ?_)
          refine lv_iinc (v := nI (k + 1)) (x := nI k) (lv' := [(3, .int (nI (k + 1))), (2, .int (imin y (tt k))), (0, .ref qy), (1, .int (nI j))]) hx hb dX4_to_59 hl (k := 1) rfl (nI_1 k) (by decide) rfl (fun ls hl => ?_)
          refine lv_goto (tgt := 6) hx hb dX4_to_62 (by decide) ?_
          exact ih6 (k + 1) (imin y (tt k)) (by omega) (by omega) (by subst ey; first | rfl | simp [mT, imin, h1, h2, h3]) _ (lv_sub hl [0, 1, 2, 3] rfl)
        · refine lv_aload_n hx hb dX4_to_35 rfl (lv_at hl 2 rfl) ?_
          refine va_get (D := D) (ci := 4) (v := .ref qyb) (C := RX4) (T := TX4) (N := 7) hx hb hts hinX4 hown hK.1 hP 0 rfl rfl 3 (by decide) (hts (.fieldLink RX4 13 "CairnShellsModel" "beneath" "[I") (by decide +kernel)) (fun _ h9 => h9) rfl dX4_to_36 ?_
          refine lv_iload_n hx hb dX4_to_39 rfl (lv_at hl 0 rfl) ?_
          refine my_iald (D := D) (j := k) hx hb hK hP 2 rfl (by omega) (by decide) dX4_to_40 ?_
          refine lv_iload_n hx hb dX4_to_41 rfl (lv_at hl 3 rfl) ?_
          refine RO_go (va_runS (As := [.int (be k), .int (nI j)]) (rest := []) ⟨hx, hb, hml, hown, hts⟩ (c_X4_has l (D := D) (cA := cA) (H0 := H0) (x := be k) (j := j) (hj := by omega)) (va_cwS 2 hts gX4_to_X4_has rfl rfl rfl (by decide +kernel) ⟨Nat.le_of_ble_eq_true rfl, Nat.le_of_ble_eq_true rfl⟩) (cP_S hK) rfl rfl hl.1 rfl (lv_room (Nat.le_of_ble_eq_true rfl)) dX4_to_42 ⟨by omega, by omega⟩) ?_
          refine my_ifeq_b (tgt := 59) hx hb dX4_to_45 (by decide) (fun h4 => ?_) (fun h4 => ?_)
          · refine lv_iinc (v := nI (k + 1)) (x := nI k) (lv' := [(3, .int (nI (k + 1))), (2, .int y), (0, .ref qy), (1, .int (nI j))]) hx hb dX4_to_59 hl (k := 0) rfl (nI_1 k) (by decide) rfl (fun ls hl => ?_)
            refine lv_goto (tgt := 6) hx hb dX4_to_62 (by decide) ?_
            exact ih6 (k + 1) y (by omega) (by omega) (by subst ey; first | rfl | simp [mT, imin, h1, h2, h3, h4]) _ (lv_sub hl [0, 1, 2, 3] rfl)
          · refine lv_iload_n hx hb dX4_to_48 rfl (lv_at hl 1 rfl) ?_
            refine lv_aload_n hx hb dX4_to_49 rfl (lv_at hl 2 rfl) ?_
            refine va_get (D := D) (ci := 4) (v := .ref qye) (C := RX4) (T := TX4) (N := 7) hx hb hts hinX4 hown hK.1 hP 0 rfl rfl 6 (by decide) (hts (.fieldLink RX4 22 "CairnShellsModel" "tos" "[I") (by decide +kernel)) (fun _ h9 => h9) rfl dX4_to_50 ?_
            refine lv_iload_n hx hb dX4_to_53 rfl (lv_at hl 0 rfl) ?_
            refine my_iald (D := D) (j := k) hx hb hK hP 4 rfl (by omega) (by decide) dX4_to_54 ?_
            refine va_mmin hx hb (hml.trans hl.1.symm) hown (hts (.methodLink RX4 73 Lib.Math.min.name) (by decide +kernel)) (hts (.static Lib.Math.min.name) (by decide +kernel)) (hts (.initialized "java/lang/Math") (by decide +kernel)) (hts (.code Lib.Math.min.name Lib.Math.min.code 2 (some .int)) (by decide +kernel)) (Nat.le_of_ble_eq_true rfl) (Nat.le_of_ble_eq_true rfl) (by omega) (by omega) dX4_to_55 ?_
            refine lv_istore_n (lv' := [(2, .int (imin y (tt k))), (3, .int (nI k)), (0, .ref qy), (1, .int (nI j))]) hx hb dX4_to_58 rfl hl (by decide) rfl (fun ls hl => ?_)
            refine lv_iinc (v := nI (k + 1)) (x := nI k) (lv' := [(3, .int (nI (k + 1))), (2, .int (imin y (tt k))), (0, .ref qy), (1, .int (nI j))]) hx hb dX4_to_59 hl (k := 1) rfl (nI_1 k) (by decide) rfl (fun ls hl => ?_)
            refine lv_goto (tgt := 6) hx hb dX4_to_62 (by decide) ?_
            exact ih6 (k + 1) (imin y (tt k)) (by omega) (by omega) (by subst ey; first | rfl | simp [mT, imin, h1, h2, h3, h4]) _ (lv_sub hl [0, 1, 2, 3] rfl)
set_option maxHeartbeats 4000000 in
set_option maxRecDepth 100000 in
theorem c_X4_isDoubtful (l : Launch) {D : va_G} {cA : ClassId} {H0 : Heap} {qy qya qyb qyc qyd qye N : Nat} {th : Int32} {al be fr tt : Nat → Int32} (j : Nat) (hj : j < 14) (hN : N ≤ 14) (hP : va_P D vwCl [(qy, .inr (4, [.int th, .int (nI N), .ref qya, .ref qyb, .ref qyc, .ref qyd, .ref qye])), (qya, .inl (cA, 14, .inl al)), (qyb, .inl (cA, 14, .inl be)), (qyd, .inl (cA, 14, .inl fr)), (qye, .inl (cA, 14, .inl tt))] H0) : RO l yX4_isDoubtful wsX4_isDoubtful 2 44 [.ref qy, .int (nI j)] D cA H0 (some (.int (bI (mdb N al be fr tt j)))) := by
  refine RO_of (cc := cX4_isDoubtful) (maxL := 2) (ret := (some .boolean)) (by decide) rfl (Nat.le_of_ble_eq_true rfl) ?_
  intro p e s m below meth c ls hx hb hml hr hown hts hlk hH hK hl
  have hown : s.vm.findClass RX4 = some m.cls := hown
  have hl : lv_has ls 2 [(0, .ref qy), (1, .int (nI j))] := hl
  have hinX4 : ∀ w ∈ wsX40, w ∈ wsX4_isDoubtful := by decide +kernel
  refine lv_aload_n hx hb dX4_isDoubtful_0 rfl (lv_at hl 0 rfl) ?_
  refine lv_iload_n hx hb dX4_isDoubtful_1 rfl (lv_at hl 1 rfl) ?_
  refine RO_go (va_runV (As := [.int (nI j)]) (rest := []) ⟨hx, hb, hml, hown, hts⟩ (c_X4_from l (D := D) (cA := cA) (H0 := H0) (j := j) (hj := by omega) (hN := by omega) (hP := hP.sub (ws' := [(qy, .inr (4, [.int th, .int (nI N), .ref qya, .ref qyb, .ref qyc, .ref qyd, .ref qye])), (qya, .inl (cA, 14, .inl al)), (qyb, .inl (cA, 14, .inl be)), (qyd, .inl (cA, 14, .inl fr))]) [0, 1, 2, 3] rfl)) (cwV 1 hts gX4_isDoubtful_X4_from rfl rfl rfl (by decide +kernel) ⟨Nat.le_of_ble_eq_true rfl, Nat.le_of_ble_eq_true rfl⟩) (cP_V hK (va_recv hK.1 hP (ci := 4) (q0 := 0) rfl rfl)) rfl rfl hl.1 rfl (lv_room (Nat.le_of_ble_eq_true rfl)) dX4_isDoubtful_2 ⟨by omega, by omega⟩) ?_
  refine lv_aload_n hx hb dX4_isDoubtful_5 rfl (lv_at hl 0 rfl) ?_
  refine lv_iload_n hx hb dX4_isDoubtful_6 rfl (lv_at hl 1 rfl) ?_
  refine RO_go (va_runV (As := [.int (nI j)]) (rest := [.int (mF fr (al j ||| be j) N)]) ⟨hx, hb, hml, hown, hts⟩ (c_X4_to l (D := D) (cA := cA) (H0 := H0) (j := j) (hj := by omega) (hN := by omega) (hP := hP.sub (ws' := [(qy, .inr (4, [.int th, .int (nI N), .ref qya, .ref qyb, .ref qyc, .ref qyd, .ref qye])), (qya, .inl (cA, 14, .inl al)), (qyb, .inl (cA, 14, .inl be)), (qyd, .inl (cA, 14, .inl fr)), (qye, .inl (cA, 14, .inl tt))]) [0, 1, 2, 3, 4] rfl)) (cwV 1 hts gX4_isDoubtful_X4_to rfl rfl rfl (by decide +kernel) ⟨Nat.le_of_ble_eq_true rfl, Nat.le_of_ble_eq_true rfl⟩) (cP_V hK (va_recv hK.1 hP (ci := 4) (q0 := 0) rfl rfl)) rfl rfl hl.1 rfl (lv_room (Nat.le_of_ble_eq_true rfl)) dX4_isDoubtful_7 ⟨by omega, by omega⟩) ?_
  refine lv_icmp_le (tgt := 17) hx hb dX4_isDoubtful_10 (by decide) (fun h1 => ?_) (fun h1 => ?_)
  · refine lv_iconst (v := 0) hx hb dX4_isDoubtful_17 (by decide) ?_
    exact RO_zret hx hb hr hlk hH dX4_isDoubtful_18 (by decide) (by first | rfl | simp [bI, mdb, h1])
  · refine lv_iconst (v := 1) hx hb dX4_isDoubtful_13 (by decide) ?_
    refine lv_goto (tgt := 18) hx hb dX4_isDoubtful_14 (by decide) ?_
    exact RO_zret hx hb hr hlk hH dX4_isDoubtful_18 (by decide) (by first | rfl | simp [bI, mdb, h1])
set_option maxHeartbeats 4000000 in
set_option maxRecDepth 100000 in
theorem c_X4_all (l : Launch) {D : va_G} {cA : ClassId} {H0 : Heap} {qy qya qyb qyc qyd qye N : Nat} {th : Int32} {al mn : Nat → Int32} (j : Nat) (kd : Nat) (hj : j < 14) (hkd : kd < 4) (hN : N ≤ 14) (hP : va_P D vwCl [(qy, .inr (4, [.int th, .int (nI N), .ref qya, .ref qyb, .ref qyc, .ref qyd, .ref qye])), (qya, .inl (cA, 14, .inl al)), (qyc, .inl (cA, 56, .inl mn))] H0) : RO l yX4_all wsX4_all 1 21 [.ref qy, .int (nI j), .int (nI kd)] D cA H0 (some (.int (mA mn (al j) kd N))) := by
  refine RO_of (cc := cX4_all) (maxL := 5) (ret := (some .int)) (by decide) rfl (Nat.le_of_ble_eq_true rfl) ?_
  intro p e s m below meth c ls hx hb hml hr hown hts hlk hH hK hl
  have hown : s.vm.findClass RX4 = some m.cls := hown
  have hl : lv_has ls 5 [(0, .ref qy), (1, .int (nI j)), (2, .int (nI kd))] := hl
  have hinX4 : ∀ w ∈ wsX40, w ∈ wsX4_all := by decide +kernel
  refine lv_iconst (v := 0) hx hb dX4_all_0 (by decide) ?_
  refine lv_istore_n (lv' := [(3, .int 0), (0, .ref qy), (1, .int (nI j)), (2, .int (nI kd))]) hx hb dX4_all_1 rfl hl (by decide) rfl (fun ls hl => ?_)
  refine lv_iconst (v := 0) hx hb dX4_all_2 (by decide) ?_
  refine lv_istore (lv' := [(4, .int 0), (3, .int 0), (0, .ref qy), (1, .int (nI j)), (2, .int (nI kd))]) hx hb dX4_all_3 hl (by decide) rfl (fun ls hl => ?_)
  suffices loop : ∀ (n k : Nat) (y : Int32), k ≤ N → N < k + n → y = mA mn (al j) kd k → ∀ ls, lv_has ls 5 [(4, .int (nI k)), (3, .int y), (0, .ref qy), (1, .int (nI j)), (2, .int (nI kd))] → W p l e { frames := 1, cells := 0, slots := 0, locals := 21 } s m ([.ref qy, .int (nI j), .int (nI kd)] : List Value).toArray below meth c H0 [] 0 0 (MQ below (roQ (some (.int (mA mn (al j) kd N))) H0) ([.ref qy, .int (nI j), .int (nI kd)] : List Value).toArray s 0 0 (fun _ => False)) (F0 m 5 ls []) from loop (N + 1) 0 0 (by omega) (by omega) (by first | rfl | (simp []; done) | (simp []; done)) _ (lv_sub hl [0, 1, 2, 3, 4] rfl)
  intro n
  induction n with
  | zero => intro k y hk1 hk2; exact absurd hk2 (by omega)
  | succ n ih5 =>
    intro k y hk5 hn5 ey ls hl
    refine lv_iload hx hb dX4_all_5 (lv_at hl 0 rfl) ?_
    refine lv_aload_n hx hb dX4_all_7 rfl (lv_at hl 2 rfl) ?_
    refine va_get (D := D) (ci := 4) (v := .int (nI N)) (C := RX4) (T := TX4) (N := 7) hx hb hts hinX4 hown hK.1 hP 0 rfl rfl 1 (by decide) (hts (.fieldLink RX4 29 "CairnShellsModel" "layers" "I") (by decide +kernel)) (fun _ h9 => h9) rfl dX4_all_8 ?_
    refine my_geN (x := k) (y := N) (tgt := 52) hx hb dX4_all_11 (by decide) (by omega) (by omega) (fun h1 => ?_) (fun h1 => ?_)
    · obtain rfl : N = k := by omega
      subst ey
      refine lv_iload_n hx hb dX4_all_52 rfl (lv_at hl 1 rfl) ?_
      exact RO_zret hx hb hr hlk hH dX4_all_53 (by rfl) (by first | rfl | simp [h1])
    · refine lv_iload_n hx hb dX4_all_14 rfl (lv_at hl 1 rfl) ?_
      refine lv_aload_n hx hb dX4_all_15 rfl (lv_at hl 2 rfl) ?_
      refine va_get (D := D) (ci := 4) (v := .ref qya) (C := RX4) (T := TX4) (N := 7) hx hb hts hinX4 hown hK.1 hP 0 rfl rfl 2 (by decide) (hts (.fieldLink RX4 9 "CairnShellsModel" "alike" "[I") (by decide +kernel)) (fun _ h9 => h9) rfl dX4_all_16 ?_
      refine lv_iload_n hx hb dX4_all_19 rfl (lv_at hl 3 rfl) ?_
      refine my_iald (D := D) (j := j) hx hb hK hP 1 rfl (by omega) (by decide) dX4_all_20 ?_
      refine lv_iload hx hb dX4_all_21 (lv_at hl 0 rfl) ?_
      refine RO_go (va_runS (As := [.int (al j), .int (nI k)]) (rest := [.int y]) ⟨hx, hb, hml, hown, hts⟩ (c_X4_has l (D := D) (cA := cA) (H0 := H0) (x := al j) (j := k) (hj := by omega)) (va_cwS 2 hts gX4_all_X4_has rfl rfl rfl (by decide +kernel) ⟨Nat.le_of_ble_eq_true rfl, Nat.le_of_ble_eq_true rfl⟩) (cP_S hK) rfl rfl hl.1 rfl (lv_room (Nat.le_of_ble_eq_true rfl)) dX4_all_23 ⟨by omega, by omega⟩) ?_
      refine my_ifeq_b (tgt := 43) hx hb dX4_all_26 (by decide) (fun h2 => ?_) (fun h2 => ?_)
      · refine lv_iconst (v := 0) hx hb dX4_all_43 (by decide) ?_
        refine lv_iadd hx hb dX4_all_44 ?_
        refine lv_istore_n (lv' := [(3, .int (y + 0)), (4, .int (nI k)), (0, .ref qy), (1, .int (nI j)), (2, .int (nI kd))]) hx hb dX4_all_45 rfl hl (by decide) rfl (fun ls hl => ?_)
        refine lv_iinc (v := nI (k + 1)) (x := nI k) (lv' := [(4, .int (nI (k + 1))), (3, .int (y + 0)), (0, .ref qy), (1, .int (nI j)), (2, .int (nI kd))]) hx hb dX4_all_46 hl (k := 1) rfl (nI_1 k) (by decide) rfl (fun ls hl => ?_)
        refine lv_goto (tgt := 5) hx hb dX4_all_49 (by decide) ?_
        exact ih5 (k + 1) (y + 0) (by omega) (by omega) (by subst ey; first | rfl | simp [mA, h1, h2]) _ (lv_sub hl [0, 1, 2, 3, 4] rfl)
      · refine lv_aload_n hx hb dX4_all_29 rfl (lv_at hl 2 rfl) ?_
        refine va_get (D := D) (ci := 4) (v := .ref qyc) (C := RX4) (T := TX4) (N := 7) hx hb hts hinX4 hown hK.1 hP 0 rfl rfl 4 (by decide) (hts (.fieldLink RX4 16 "CairnShellsModel" "sifted" "[I") (by decide +kernel)) (fun _ h9 => h9) rfl dX4_all_30 ?_
        refine lv_iconst (v := 4) hx hb dX4_all_33 (by decide) ?_
        refine lv_iload hx hb dX4_all_34 (lv_at hl 0 rfl) ?_
        refine my_imulN (x := 4) (y := k) hx hb dX4_all_36 ?_
        refine lv_iload_n hx hb dX4_all_37 rfl (lv_at hl 4 rfl) ?_
        refine my_iaddN (x := 4 * k) (y := kd) hx hb dX4_all_38 ?_
        refine my_iald (D := D) (j := (4 * k) + kd) hx hb hK hP 2 rfl (by omega) (by decide) dX4_all_39 ?_
        refine lv_goto (tgt := 44) hx hb dX4_all_40 (by decide) ?_
        refine lv_iadd hx hb dX4_all_44 ?_
        refine lv_istore_n (lv' := [(3, .int (y + (mn ((4 * k) + kd)))), (4, .int (nI k)), (0, .ref qy), (1, .int (nI j)), (2, .int (nI kd))]) hx hb dX4_all_45 rfl hl (by decide) rfl (fun ls hl => ?_)
        refine lv_iinc (v := nI (k + 1)) (x := nI k) (lv' := [(4, .int (nI (k + 1))), (3, .int (y + (mn ((4 * k) + kd)))), (0, .ref qy), (1, .int (nI j)), (2, .int (nI kd))]) hx hb dX4_all_46 hl (k := 1) rfl (nI_1 k) (by decide) rfl (fun ls hl => ?_)
        refine lv_goto (tgt := 5) hx hb dX4_all_49 (by decide) ?_
        exact ih5 (k + 1) (y + (mn ((4 * k) + kd))) (by omega) (by omega) (by subst ey; first | rfl | simp [mA, h1, h2]) _ (lv_sub hl [0, 1, 2, 3, 4] rfl)
set_option maxHeartbeats 4000000 in
set_option maxRecDepth 100000 in
theorem c_X4_laterThan (l : Launch) {D : va_G} {cA : ClassId} {H0 : Heap} {qy qya qyb qyc qyd qye N : Nat} {th : Int32} {be : Nat → Int32} (j : Nat) (hj : j < 14) (hN : N ≤ 14) (hP : va_P D vwCl [(qy, .inr (4, [.int th, .int (nI N), .ref qya, .ref qyb, .ref qyc, .ref qyd, .ref qye])), (qyb, .inl (cA, 14, .inl be))] H0) : RO l yX4_laterThan wsX4_laterThan 1 21 [.ref qy, .int (nI j)] D cA H0 (some (.int (nI (ct (fun k => bt (be k) j) N)))) := by
  refine RO_of (cc := cX4_laterThan) (maxL := 4) (ret := (some .int)) (by decide) rfl (Nat.le_of_ble_eq_true rfl) ?_
  intro p e s m below meth c ls hx hb hml hr hown hts hlk hH hK hl
  have hown : s.vm.findClass RX4 = some m.cls := hown
  have hl : lv_has ls 4 [(0, .ref qy), (1, .int (nI j))] := hl
  have hinX4 : ∀ w ∈ wsX40, w ∈ wsX4_laterThan := by decide +kernel
  refine lv_iconst (v := 0) hx hb dX4_laterThan_0 (by decide) ?_
  refine lv_istore_n (lv' := [(2, .int 0), (0, .ref qy), (1, .int (nI j))]) hx hb dX4_laterThan_1 rfl hl (by decide) rfl (fun ls hl => ?_)
  refine lv_iconst (v := 0) hx hb dX4_laterThan_2 (by decide) ?_
  refine lv_istore_n (lv' := [(3, .int 0), (2, .int 0), (0, .ref qy), (1, .int (nI j))]) hx hb dX4_laterThan_3 rfl hl (by decide) rfl (fun ls hl => ?_)
  suffices loop : ∀ (n k : Nat) (y : Nat), k ≤ N → N < k + n → y = ct (fun k => bt (be k) j) k → ∀ ls, lv_has ls 4 [(3, .int (nI k)), (2, .int (nI y)), (0, .ref qy), (1, .int (nI j))] → W p l e { frames := 1, cells := 0, slots := 0, locals := 21 } s m ([.ref qy, .int (nI j)] : List Value).toArray below meth c H0 [] 0 0 (MQ below (roQ (some (.int (nI (ct (fun k => bt (be k) j) N)))) H0) ([.ref qy, .int (nI j)] : List Value).toArray s 0 0 (fun _ => False)) (F0 m 4 ls []) from loop (N + 1) 0 0 (by omega) (by omega) (by first | rfl | (simp []; done) | (simp []; done)) _ (lv_sub hl [0, 1, 2, 3] rfl)
  intro n
  induction n with
  | zero => intro k y hk1 hk2; exact absurd hk2 (by omega)
  | succ n ih4 =>
    intro k y hk4 hn4 ey ls hl
    refine lv_iload_n hx hb dX4_laterThan_4 rfl (lv_at hl 0 rfl) ?_
    refine lv_aload_n hx hb dX4_laterThan_5 rfl (lv_at hl 2 rfl) ?_
    refine va_get (D := D) (ci := 4) (v := .int (nI N)) (C := RX4) (T := TX4) (N := 7) hx hb hts hinX4 hown hK.1 hP 0 rfl rfl 1 (by decide) (hts (.fieldLink RX4 29 "CairnShellsModel" "layers" "I") (by decide +kernel)) (fun _ h9 => h9) rfl dX4_laterThan_6 ?_
    refine my_geN (x := k) (y := N) (tgt := 39) hx hb dX4_laterThan_9 (by decide) (by omega) (by omega) (fun h1 => ?_) (fun h1 => ?_)
    · obtain rfl : N = k := by omega
      subst ey
      refine lv_iload_n hx hb dX4_laterThan_39 rfl (lv_at hl 1 rfl) ?_
      exact RO_zret hx hb hr hlk hH dX4_laterThan_40 (by rfl) rfl
    · refine lv_iload_n hx hb dX4_laterThan_12 rfl (lv_at hl 1 rfl) ?_
      refine lv_aload_n hx hb dX4_laterThan_13 rfl (lv_at hl 2 rfl) ?_
      refine va_get (D := D) (ci := 4) (v := .ref qyb) (C := RX4) (T := TX4) (N := 7) hx hb hts hinX4 hown hK.1 hP 0 rfl rfl 3 (by decide) (hts (.fieldLink RX4 13 "CairnShellsModel" "beneath" "[I") (by decide +kernel)) (fun _ h9 => h9) rfl dX4_laterThan_14 ?_
      refine lv_iload_n hx hb dX4_laterThan_17 rfl (lv_at hl 0 rfl) ?_
      refine my_iald (D := D) (j := k) hx hb hK hP 1 rfl (by omega) (by decide) dX4_laterThan_18 ?_
      refine lv_iload_n hx hb dX4_laterThan_19 rfl (lv_at hl 3 rfl) ?_
      refine RO_go (va_runS (As := [.int (be k), .int (nI j)]) (rest := [.int (nI y)]) ⟨hx, hb, hml, hown, hts⟩ (c_X4_has l (D := D) (cA := cA) (H0 := H0) (x := be k) (j := j) (hj := by omega)) (va_cwS 2 hts gX4_laterThan_X4_has rfl rfl rfl (by decide +kernel) ⟨Nat.le_of_ble_eq_true rfl, Nat.le_of_ble_eq_true rfl⟩) (cP_S hK) rfl rfl hl.1 rfl (lv_room (Nat.le_of_ble_eq_true rfl)) dX4_laterThan_20 ⟨by omega, by omega⟩) ?_
      refine my_ifeq_b (tgt := 30) hx hb dX4_laterThan_23 (by decide) (fun h2 => ?_) (fun h2 => ?_)
      · refine lv_iconst (v := 0) hx hb dX4_laterThan_30 (by decide) ?_
        refine my_iaddN (x := y) (y := 0) hx hb dX4_laterThan_31 ?_
        refine lv_istore_n (lv' := [(2, .int (nI (y + 0))), (3, .int (nI k)), (0, .ref qy), (1, .int (nI j))]) hx hb dX4_laterThan_32 rfl hl (by decide) rfl (fun ls hl => ?_)
        refine lv_iinc (v := nI (k + 1)) (x := nI k) (lv' := [(3, .int (nI (k + 1))), (2, .int (nI (y + 0))), (0, .ref qy), (1, .int (nI j))]) hx hb dX4_laterThan_33 hl (k := 1) rfl (nI_1 k) (by decide) rfl (fun ls hl => ?_)
        refine lv_goto (tgt := 4) hx hb dX4_laterThan_36 (by decide) ?_
        exact ih4 (k + 1) (y + 0) (by omega) (by omega) (by subst ey; first | rfl | simp [ct, h1, h2]) _ (lv_sub hl [0, 1, 2, 3] rfl)
      · refine lv_iconst (v := 1) hx hb dX4_laterThan_26 (by decide) ?_
        refine lv_goto (tgt := 31) hx hb dX4_laterThan_27 (by decide) ?_
        refine my_iaddN (x := y) (y := 1) hx hb dX4_laterThan_31 ?_
        refine lv_istore_n (lv' := [(2, .int (nI (y + 1))), (3, .int (nI k)), (0, .ref qy), (1, .int (nI j))]) hx hb dX4_laterThan_32 rfl hl (by decide) rfl (fun ls hl => ?_)
        refine lv_iinc (v := nI (k + 1)) (x := nI k) (lv' := [(3, .int (nI (k + 1))), (2, .int (nI (y + 1))), (0, .ref qy), (1, .int (nI j))]) hx hb dX4_laterThan_33 hl (k := 1) rfl (nI_1 k) (by decide) rfl (fun ls hl => ?_)
        refine lv_goto (tgt := 4) hx hb dX4_laterThan_36 (by decide) ?_
        exact ih4 (k + 1) (y + 1) (by omega) (by omega) (by subst ey; first | rfl | simp [ct, h1, h2]) _ (lv_sub hl [0, 1, 2, 3] rfl)
set_option maxHeartbeats 4000000 in
set_option maxRecDepth 100000 in
theorem c_X4_within (l : Launch) {D : va_G} {cA : ClassId} {H0 : Heap} {qy qya qyb qyc qyd qye N : Nat} {th : Int32} {be : Nat → Int32} (i : Nat) (j : Nat) (hi : i < 14) (hj : j < 14) (hN : N ≤ 14) (hP : va_P D vwCl [(qy, .inr (4, [.int th, .int (nI N), .ref qya, .ref qyb, .ref qyc, .ref qyd, .ref qye])), (qyb, .inl (cA, 14, .inl be))] H0) : RO l yX4_within wsX4_within 1 21 [.ref qy, .int (nI i), .int (nI j)] D cA H0 (some (.int (nI (ct (fun k => bt (be i) k && bt (be k) j) N)))) := by
  refine RO_of (cc := cX4_within) (maxL := 5) (ret := (some .int)) (by decide) rfl (Nat.le_of_ble_eq_true rfl) ?_
  intro p e s m below meth c ls hx hb hml hr hown hts hlk hH hK hl
  have hown : s.vm.findClass RX4 = some m.cls := hown
  have hl : lv_has ls 5 [(0, .ref qy), (1, .int (nI i)), (2, .int (nI j))] := hl
  have hinX4 : ∀ w ∈ wsX40, w ∈ wsX4_within := by decide +kernel
  refine lv_iconst (v := 0) hx hb dX4_within_0 (by decide) ?_
  refine lv_istore_n (lv' := [(3, .int 0), (0, .ref qy), (1, .int (nI i)), (2, .int (nI j))]) hx hb dX4_within_1 rfl hl (by decide) rfl (fun ls hl => ?_)
  refine lv_iconst (v := 0) hx hb dX4_within_2 (by decide) ?_
  refine lv_istore (lv' := [(4, .int 0), (3, .int 0), (0, .ref qy), (1, .int (nI i)), (2, .int (nI j))]) hx hb dX4_within_3 hl (by decide) rfl (fun ls hl => ?_)
  suffices loop : ∀ (n k : Nat) (y : Nat), k ≤ N → N < k + n → y = ct (fun k => bt (be i) k && bt (be k) j) k → ∀ ls, lv_has ls 5 [(4, .int (nI k)), (3, .int (nI y)), (0, .ref qy), (1, .int (nI i)), (2, .int (nI j))] → W p l e { frames := 1, cells := 0, slots := 0, locals := 21 } s m ([.ref qy, .int (nI i), .int (nI j)] : List Value).toArray below meth c H0 [] 0 0 (MQ below (roQ (some (.int (nI (ct (fun k => bt (be i) k && bt (be k) j) N)))) H0) ([.ref qy, .int (nI i), .int (nI j)] : List Value).toArray s 0 0 (fun _ => False)) (F0 m 5 ls []) from loop (N + 1) 0 0 (by omega) (by omega) (by first | rfl | (simp []; done) | (simp []; done)) _ (lv_sub hl [0, 1, 2, 3, 4] rfl)
  intro n
  induction n with
  | zero => intro k y hk1 hk2; exact absurd hk2 (by omega)
  | succ n ih5 =>
    intro k y hk5 hn5 ey ls hl
    refine lv_iload hx hb dX4_within_5 (lv_at hl 0 rfl) ?_
    refine lv_aload_n hx hb dX4_within_7 rfl (lv_at hl 2 rfl) ?_
    refine va_get (D := D) (ci := 4) (v := .int (nI N)) (C := RX4) (T := TX4) (N := 7) hx hb hts hinX4 hown hK.1 hP 0 rfl rfl 1 (by decide) (hts (.fieldLink RX4 29 "CairnShellsModel" "layers" "I") (by decide +kernel)) (fun _ h9 => h9) rfl dX4_within_8 ?_
    refine my_geN (x := k) (y := N) (tgt := 56) hx hb dX4_within_11 (by decide) (by omega) (by omega) (fun h1 => ?_) (fun h1 => ?_)
    · obtain rfl : N = k := by omega
      subst ey
      refine lv_iload_n hx hb dX4_within_56 rfl (lv_at hl 1 rfl) ?_
      exact RO_zret hx hb hr hlk hH dX4_within_57 (by rfl) rfl
    · refine lv_iload_n hx hb dX4_within_14 rfl (lv_at hl 1 rfl) ?_
      refine lv_aload_n hx hb dX4_within_15 rfl (lv_at hl 2 rfl) ?_
      refine va_get (D := D) (ci := 4) (v := .ref qyb) (C := RX4) (T := TX4) (N := 7) hx hb hts hinX4 hown hK.1 hP 0 rfl rfl 3 (by decide) (hts (.fieldLink RX4 13 "CairnShellsModel" "beneath" "[I") (by decide +kernel)) (fun _ h9 => h9) rfl dX4_within_16 ?_
      refine lv_iload_n hx hb dX4_within_19 rfl (lv_at hl 3 rfl) ?_
      refine my_iald (D := D) (j := i) hx hb hK hP 1 rfl (by omega) (by decide) dX4_within_20 ?_
      refine lv_iload hx hb dX4_within_21 (lv_at hl 0 rfl) ?_
      refine RO_go (va_runS (As := [.int (be i), .int (nI k)]) (rest := [.int (nI y)]) ⟨hx, hb, hml, hown, hts⟩ (c_X4_has l (D := D) (cA := cA) (H0 := H0) (x := be i) (j := k) (hj := by omega)) (va_cwS 2 hts gX4_within_X4_has rfl rfl rfl (by decide +kernel) ⟨Nat.le_of_ble_eq_true rfl, Nat.le_of_ble_eq_true rfl⟩) (cP_S hK) rfl rfl hl.1 rfl (lv_room (Nat.le_of_ble_eq_true rfl)) dX4_within_23 ⟨by omega, by omega⟩) ?_
      refine my_ifeq_b (tgt := 47) hx hb dX4_within_26 (by decide) (fun h2 => ?_) (fun h2 => ?_)
      · refine lv_iconst (v := 0) hx hb dX4_within_47 (by decide) ?_
        refine my_iaddN (x := y) (y := 0) hx hb dX4_within_48 ?_
        refine lv_istore_n (lv' := [(3, .int (nI (y + 0))), (4, .int (nI k)), (0, .ref qy), (1, .int (nI i)), (2, .int (nI j))]) hx hb dX4_within_49 rfl hl (by decide) rfl (fun ls hl => ?_)
        refine lv_iinc (v := nI (k + 1)) (x := nI k) (lv' := [(4, .int (nI (k + 1))), (3, .int (nI (y + 0))), (0, .ref qy), (1, .int (nI i)), (2, .int (nI j))]) hx hb dX4_within_50 hl (k := 1) rfl (nI_1 k) (by decide) rfl (fun ls hl => ?_)
        refine lv_goto (tgt := 5) hx hb dX4_within_53 (by decide) ?_
        exact ih5 (k + 1) (y + 0) (by omega) (by omega) (by subst ey; first | rfl | simp [ct, h1, h2]) _ (lv_sub hl [0, 1, 2, 3, 4] rfl)
      · refine lv_aload_n hx hb dX4_within_29 rfl (lv_at hl 2 rfl) ?_
        refine va_get (D := D) (ci := 4) (v := .ref qyb) (C := RX4) (T := TX4) (N := 7) hx hb hts hinX4 hown hK.1 hP 0 rfl rfl 3 (by decide) (hts (.fieldLink RX4 13 "CairnShellsModel" "beneath" "[I") (by decide +kernel)) (fun _ h9 => h9) rfl dX4_within_30 ?_
        refine lv_iload hx hb dX4_within_33 (lv_at hl 0 rfl) ?_
        refine my_iald (D := D) (j := k) hx hb hK hP 1 rfl (by omega) (by decide) dX4_within_35 ?_
        refine lv_iload_n hx hb dX4_within_36 rfl (lv_at hl 4 rfl) ?_
        refine RO_go (va_runS (As := [.int (be k), .int (nI j)]) (rest := [.int (nI y)]) ⟨hx, hb, hml, hown, hts⟩ (c_X4_has l (D := D) (cA := cA) (H0 := H0) (x := be k) (j := j) (hj := by omega)) (va_cwS 2 hts gX4_within_X4_has rfl rfl rfl (by decide +kernel) ⟨Nat.le_of_ble_eq_true rfl, Nat.le_of_ble_eq_true rfl⟩) (cP_S hK) rfl rfl hl.1 rfl (lv_room (Nat.le_of_ble_eq_true rfl)) dX4_within_37 ⟨by omega, by omega⟩) ?_
        refine my_ifeq_b (tgt := 47) hx hb dX4_within_40 (by decide) (fun h3 => ?_) (fun h3 => ?_)
        · refine lv_iconst (v := 0) hx hb dX4_within_47 (by decide) ?_
          refine my_iaddN (x := y) (y := 0) hx hb dX4_within_48 ?_
          refine lv_istore_n (lv' := [(3, .int (nI (y + 0))), (4, .int (nI k)), (0, .ref qy), (1, .int (nI i)), (2, .int (nI j))]) hx hb dX4_within_49 rfl hl (by decide) rfl (fun ls hl => ?_)
          refine lv_iinc (v := nI (k + 1)) (x := nI k) (lv' := [(4, .int (nI (k + 1))), (3, .int (nI (y + 0))), (0, .ref qy), (1, .int (nI i)), (2, .int (nI j))]) hx hb dX4_within_50 hl (k := 1) rfl (nI_1 k) (by decide) rfl (fun ls hl => ?_)
          refine lv_goto (tgt := 5) hx hb dX4_within_53 (by decide) ?_
          exact ih5 (k + 1) (y + 0) (by omega) (by omega) (by subst ey; first | rfl | simp [ct, h1, h2, h3]) _ (lv_sub hl [0, 1, 2, 3, 4] rfl)
        · refine lv_iconst (v := 1) hx hb dX4_within_43 (by decide) ?_
          refine lv_goto (tgt := 48) hx hb dX4_within_44 (by decide) ?_
          refine my_iaddN (x := y) (y := 1) hx hb dX4_within_48 ?_
          refine lv_istore_n (lv' := [(3, .int (nI (y + 1))), (4, .int (nI k)), (0, .ref qy), (1, .int (nI i)), (2, .int (nI j))]) hx hb dX4_within_49 rfl hl (by decide) rfl (fun ls hl => ?_)
          refine lv_iinc (v := nI (k + 1)) (x := nI k) (lv' := [(4, .int (nI (k + 1))), (3, .int (nI (y + 1))), (0, .ref qy), (1, .int (nI i)), (2, .int (nI j))]) hx hb dX4_within_50 hl (k := 1) rfl (nI_1 k) (by decide) rfl (fun ls hl => ?_)
          refine lv_goto (tgt := 5) hx hb dX4_within_53 (by decide) ?_
          exact ih5 (k + 1) (y + 1) (by omega) (by omega) (by subst ey; first | rfl | simp [ct, h1, h2, h3]) _ (lv_sub hl [0, 1, 2, 3, 4] rfl)
set_option maxHeartbeats 4000000 in
set_option maxRecDepth 100000 in
theorem c_X4_doubtful (l : Launch) {D : va_G} {cA : ClassId} {H0 : Heap} {qy qya qyb qyc qyd qye N : Nat} {th : Int32} {al be fr tt : Nat → Int32} (hN : N ≤ 14) (hP : va_P D vwCl [(qy, .inr (4, [.int th, .int (nI N), .ref qya, .ref qyb, .ref qyc, .ref qyd, .ref qye])), (qya, .inl (cA, 14, .inl al)), (qyb, .inl (cA, 14, .inl be)), (qyd, .inl (cA, 14, .inl fr)), (qye, .inl (cA, 14, .inl tt))] H0) : RO l yX4_doubtful wsX4_doubtful 3 65 [.ref qy] D cA H0 (some (.int (nI (ct (mdb N al be fr tt) N)))) := by
  refine RO_of (cc := cX4_doubtful) (maxL := 3) (ret := (some .int)) (by decide) rfl (Nat.le_of_ble_eq_true rfl) ?_
  intro p e s m below meth c ls hx hb hml hr hown hts hlk hH hK hl
  have hown : s.vm.findClass RX4 = some m.cls := hown
  have hl : lv_has ls 3 [(0, .ref qy)] := hl
  have hinX4 : ∀ w ∈ wsX40, w ∈ wsX4_doubtful := by decide +kernel
  refine lv_iconst (v := 0) hx hb dX4_doubtful_0 (by decide) ?_
  refine lv_istore_n (lv' := [(1, .int 0), (0, .ref qy)]) hx hb dX4_doubtful_1 rfl hl (by decide) rfl (fun ls hl => ?_)
  refine lv_iconst (v := 0) hx hb dX4_doubtful_2 (by decide) ?_
  refine lv_istore_n (lv' := [(2, .int 0), (1, .int 0), (0, .ref qy)]) hx hb dX4_doubtful_3 rfl hl (by decide) rfl (fun ls hl => ?_)
  suffices loop : ∀ (n k : Nat) (y : Nat), k ≤ N → N < k + n → y = ct (mdb N al be fr tt) k → ∀ ls, lv_has ls 3 [(2, .int (nI k)), (1, .int (nI y)), (0, .ref qy)] → W p l e { frames := 3, cells := 0, slots := 0, locals := 65 } s m ([.ref qy] : List Value).toArray below meth c H0 [] 0 0 (MQ below (roQ (some (.int (nI (ct (mdb N al be fr tt) N)))) H0) ([.ref qy] : List Value).toArray s 0 0 (fun _ => False)) (F0 m 4 ls []) from loop (N + 1) 0 0 (by omega) (by omega) (by first | rfl | (simp []; done) | (simp []; done)) _ (lv_sub hl [0, 1, 2] rfl)
  intro n
  induction n with
  | zero => intro k y hk1 hk2; exact absurd hk2 (by omega)
  | succ n ih4 =>
    intro k y hk4 hn4 ey ls hl
    refine lv_iload_n hx hb dX4_doubtful_4 rfl (lv_at hl 0 rfl) ?_
    refine lv_aload_n hx hb dX4_doubtful_5 rfl (lv_at hl 2 rfl) ?_
    refine va_get (D := D) (ci := 4) (v := .int (nI N)) (C := RX4) (T := TX4) (N := 7) hx hb hts hinX4 hown hK.1 hP 0 rfl rfl 1 (by decide) (hts (.fieldLink RX4 29 "CairnShellsModel" "layers" "I") (by decide +kernel)) (fun _ h9 => h9) rfl dX4_doubtful_6 ?_
    refine my_geN (x := k) (y := N) (tgt := 34) hx hb dX4_doubtful_9 (by decide) (by omega) (by omega) (fun h1 => ?_) (fun h1 => ?_)
    · obtain rfl : N = k := by omega
      subst ey
      refine lv_iload_n hx hb dX4_doubtful_34 rfl (lv_at hl 1 rfl) ?_
      exact RO_zret hx hb hr hlk hH dX4_doubtful_35 (by rfl) rfl
    · refine lv_iload_n hx hb dX4_doubtful_12 rfl (lv_at hl 1 rfl) ?_
      refine lv_aload_n hx hb dX4_doubtful_13 rfl (lv_at hl 2 rfl) ?_
      refine lv_iload_n hx hb dX4_doubtful_14 rfl (lv_at hl 0 rfl) ?_
      refine RO_go (va_runV (As := [.int (nI k)]) (rest := [.int (nI y)]) ⟨hx, hb, hml, hown, hts⟩ (c_X4_isDoubtful l (D := D) (cA := cA) (H0 := H0) (j := k) (hj := by omega) (hN := by omega) (hP := hP.sub (ws' := [(qy, .inr (4, [.int th, .int (nI N), .ref qya, .ref qyb, .ref qyc, .ref qyd, .ref qye])), (qya, .inl (cA, 14, .inl al)), (qyb, .inl (cA, 14, .inl be)), (qyd, .inl (cA, 14, .inl fr)), (qye, .inl (cA, 14, .inl tt))]) [0, 1, 2, 3, 4] rfl)) (cwV 1 hts gX4_doubtful_X4_isDoubtful rfl rfl rfl (by decide +kernel) ⟨Nat.le_of_ble_eq_true rfl, Nat.le_of_ble_eq_true rfl⟩) (cP_V hK (va_recv hK.1 hP (ci := 4) (q0 := 0) rfl rfl)) rfl rfl hl.1 rfl (lv_room (Nat.le_of_ble_eq_true rfl)) dX4_doubtful_15 ⟨by omega, by omega⟩) ?_
      refine my_ifeq_b (tgt := 25) hx hb dX4_doubtful_18 (by decide) (fun h2 => ?_) (fun h2 => ?_)
      · refine lv_iconst (v := 0) hx hb dX4_doubtful_25 (by decide) ?_
        refine my_iaddN (x := y) (y := 0) hx hb dX4_doubtful_26 ?_
        refine lv_istore_n (lv' := [(1, .int (nI (y + 0))), (2, .int (nI k)), (0, .ref qy)]) hx hb dX4_doubtful_27 rfl hl (by decide) rfl (fun ls hl => ?_)
        refine lv_iinc (v := nI (k + 1)) (x := nI k) (lv' := [(2, .int (nI (k + 1))), (1, .int (nI (y + 0))), (0, .ref qy)]) hx hb dX4_doubtful_28 hl (k := 1) rfl (nI_1 k) (by decide) rfl (fun ls hl => ?_)
        refine lv_goto (tgt := 4) hx hb dX4_doubtful_31 (by decide) ?_
        exact ih4 (k + 1) (y + 0) (by omega) (by omega) (by subst ey; first | rfl | simp [ct, h1, h2]) _ (lv_sub hl [0, 1, 2] rfl)
      · refine lv_iconst (v := 1) hx hb dX4_doubtful_21 (by decide) ?_
        refine lv_goto (tgt := 26) hx hb dX4_doubtful_22 (by decide) ?_
        refine my_iaddN (x := y) (y := 1) hx hb dX4_doubtful_26 ?_
        refine lv_istore_n (lv' := [(1, .int (nI (y + 1))), (2, .int (nI k)), (0, .ref qy)]) hx hb dX4_doubtful_27 rfl hl (by decide) rfl (fun ls hl => ?_)
        refine lv_iinc (v := nI (k + 1)) (x := nI k) (lv' := [(2, .int (nI (k + 1))), (1, .int (nI (y + 1))), (0, .ref qy)]) hx hb dX4_doubtful_28 hl (k := 1) rfl (nI_1 k) (by decide) rfl (fun ls hl => ?_)
        refine lv_goto (tgt := 4) hx hb dX4_doubtful_31 (by decide) ?_
        exact ih4 (k + 1) (y + 1) (by omega) (by omega) (by subst ey; first | rfl | simp [ct, h1, h2]) _ (lv_sub hl [0, 1, 2] rfl)
set_option maxHeartbeats 4000000 in
set_option maxRecDepth 100000 in
theorem c_X4_pairs (l : Launch) {D : va_G} {cA : ClassId} {H0 : Heap} {qy qya qyb qyc qyd qye N : Nat} {th : Int32} {be : Nat → Int32} (hN : N ≤ 14) (hP : va_P D vwCl [(qy, .inr (4, [.int th, .int (nI N), .ref qya, .ref qyb, .ref qyc, .ref qyd, .ref qye])), (qyb, .inl (cA, 14, .inl be))] H0) : RO l yX4_pairs wsX4_pairs 1 22 [.ref qy] D cA H0 (some (.int (nI (prs be N)))) := by
  refine RO_of (cc := cX4_pairs) (maxL := 3) (ret := (some .int)) (by decide) rfl (Nat.le_of_ble_eq_true rfl) ?_
  intro p e s m below meth c ls hx hb hml hr hown hts hlk hH hK hl
  have hown : s.vm.findClass RX4 = some m.cls := hown
  have hl : lv_has ls 3 [(0, .ref qy)] := hl
  have hinX4 : ∀ w ∈ wsX40, w ∈ wsX4_pairs := by decide +kernel
  refine lv_iconst (v := 0) hx hb dX4_pairs_0 (by decide) ?_
  refine lv_istore_n (lv' := [(1, .int 0), (0, .ref qy)]) hx hb dX4_pairs_1 rfl hl (by decide) rfl (fun ls hl => ?_)
  refine lv_iconst (v := 0) hx hb dX4_pairs_2 (by decide) ?_
  refine lv_istore_n (lv' := [(2, .int 0), (1, .int 0), (0, .ref qy)]) hx hb dX4_pairs_3 rfl hl (by decide) rfl (fun ls hl => ?_)
  suffices loop : ∀ (n k : Nat) (y : Nat), k ≤ N → N < k + n → y = prs be k → ∀ ls, lv_has ls 3 [(2, .int (nI k)), (1, .int (nI y)), (0, .ref qy)] → W p l e { frames := 1, cells := 0, slots := 0, locals := 22 } s m ([.ref qy] : List Value).toArray below meth c H0 [] 0 0 (MQ below (roQ (some (.int (nI (prs be N)))) H0) ([.ref qy] : List Value).toArray s 0 0 (fun _ => False)) (F0 m 4 ls []) from loop (N + 1) 0 0 (by omega) (by omega) (by first | rfl | (simp []; done) | (simp []; done)) _ (lv_sub hl [0, 1, 2] rfl)
  intro n
  induction n with
  | zero => intro k y hk1 hk2; exact absurd hk2 (by omega)
  | succ n ih4 =>
    intro k y hk4 hn4 ey ls hl
    refine lv_iload_n hx hb dX4_pairs_4 rfl (lv_at hl 0 rfl) ?_
    refine lv_aload_n hx hb dX4_pairs_5 rfl (lv_at hl 2 rfl) ?_
    refine va_get (D := D) (ci := 4) (v := .int (nI N)) (C := RX4) (T := TX4) (N := 7) hx hb hts hinX4 hown hK.1 hP 0 rfl rfl 1 (by decide) (hts (.fieldLink RX4 29 "CairnShellsModel" "layers" "I") (by decide +kernel)) (fun _ h9 => h9) rfl dX4_pairs_6 ?_
    refine my_geN (x := k) (y := N) (tgt := 30) hx hb dX4_pairs_9 (by decide) (by omega) (by omega) (fun h1 => ?_) (fun h1 => ?_)
    · obtain rfl : N = k := by omega
      subst ey
      refine lv_iload_n hx hb dX4_pairs_30 rfl (lv_at hl 1 rfl) ?_
      exact RO_zret hx hb hr hlk hH dX4_pairs_31 (by rfl) rfl
    · refine lv_iload_n hx hb dX4_pairs_12 rfl (lv_at hl 1 rfl) ?_
      refine lv_aload_n hx hb dX4_pairs_13 rfl (lv_at hl 2 rfl) ?_
      refine va_get (D := D) (ci := 4) (v := .ref qyb) (C := RX4) (T := TX4) (N := 7) hx hb hts hinX4 hown hK.1 hP 0 rfl rfl 3 (by decide) (hts (.fieldLink RX4 13 "CairnShellsModel" "beneath" "[I") (by decide +kernel)) (fun _ h9 => h9) rfl dX4_pairs_14 ?_
      refine lv_iload_n hx hb dX4_pairs_17 rfl (lv_at hl 0 rfl) ?_
      refine my_iald (D := D) (j := k) hx hb hK hP 1 rfl (by omega) (by decide) dX4_pairs_18 ?_
      refine RO_go (va_runS (As := [.int (be k)]) (rest := [.int (nI y)]) ⟨hx, hb, hml, hown, hts⟩ (c_X4_size l (D := D) (cA := cA) (H0 := H0) (x := be k)) (va_cwS 1 hts gX4_pairs_X4_size rfl rfl rfl (by decide +kernel) ⟨Nat.le_of_ble_eq_true rfl, Nat.le_of_ble_eq_true rfl⟩) (cP_S hK) rfl rfl hl.1 rfl (lv_room (Nat.le_of_ble_eq_true rfl)) dX4_pairs_19 ⟨by omega, by omega⟩) ?_
      refine my_iaddN (x := y) (y := ct (bt (be k)) 14) hx hb dX4_pairs_22 ?_
      refine lv_istore_n (lv' := [(1, .int (nI (y + (ct (bt (be k)) 14)))), (2, .int (nI k)), (0, .ref qy)]) hx hb dX4_pairs_23 rfl hl (by decide) rfl (fun ls hl => ?_)
      refine lv_iinc (v := nI (k + 1)) (x := nI k) (lv' := [(2, .int (nI (k + 1))), (1, .int (nI (y + (ct (bt (be k)) 14)))), (0, .ref qy)]) hx hb dX4_pairs_24 hl (k := 1) rfl (nI_1 k) (by decide) rfl (fun ls hl => ?_)
      refine lv_goto (tgt := 4) hx hb dX4_pairs_27 (by decide) ?_
      exact ih4 (k + 1) (y + (ct (bt (be k)) 14)) (by omega) (by omega) (by subst ey; first | rfl | simp [prs, h1]) _ (lv_sub hl [0, 1, 2] rfl)
set_option maxHeartbeats 4000000 in
set_option maxRecDepth 100000 in
theorem c_X4_orderAt (l : Launch) {D : va_G} {cA : ClassId} {H0 : Heap} {qy qya qyb qyc qyd qye N : Nat} {th : Int32} {be : Nat → Int32} (pl : Nat) (hpl : pl < 14) (hN : N ≤ 14) (hex : ∀ k, k ≤ pl → ∃ j, j < N ∧ fre be (arL N be k) j = true) (hP : va_P D vwCl [(qy, .inr (4, [.int th, .int (nI N), .ref qya, .ref qyb, .ref qyc, .ref qyd, .ref qye])), (qyb, .inl (cA, 14, .inl be))] H0) : RO l yX4_orderAt wsX4_orderAt 1 21 [.ref qy, .int (nI pl)] D cA H0 (some (.int (nI (arN N be pl)))) := by
  refine RO_of (cc := cX4_orderAt) (maxL := 5) (ret := (some .int)) (by decide) rfl (Nat.le_of_ble_eq_true rfl) ?_
  intro p e s m below meth c ls hx hb hml hr hown hts hlk hH hK hl
  have hown : s.vm.findClass RX4 = some m.cls := hown
  have hl : lv_has ls 5 [(0, .ref qy), (1, .int (nI pl))] := hl
  have hinX4 : ∀ w ∈ wsX40, w ∈ wsX4_orderAt := by decide +kernel
  refine lv_iconst (v := 1) hx hb dX4_orderAt_0 (by decide) ?_
  refine lv_aload_n hx hb dX4_orderAt_1 rfl (lv_at hl 0 rfl) ?_
  refine va_get (D := D) (ci := 4) (v := .int (nI N)) (C := RX4) (T := TX4) (N := 7) hx hb hts hinX4 hown hK.1 hP 0 rfl rfl 1 (by decide) (hts (.fieldLink RX4 29 "CairnShellsModel" "layers" "I") (by decide +kernel)) (fun _ h9 => h9) rfl dX4_orderAt_2 ?_
  refine lv_ishl hx hb dX4_orderAt_5 ?_
  refine lv_iconst (v := 1) hx hb dX4_orderAt_6 (by decide) ?_
  refine lv_isub hx hb dX4_orderAt_7 ?_
  refine lv_istore_n (lv' := [(2, .int (((1 : Int32) <<< ((nI N) &&& 31)) - 1)), (0, .ref qy), (1, .int (nI pl))]) hx hb dX4_orderAt_8 rfl hl (by decide) rfl (fun ls hl => ?_)
  refine lv_iconst (v := (-1)) hx hb dX4_orderAt_9 (by decide) ?_
  refine lv_istore_n (lv' := [(3, .int (-1)), (2, .int (((1 : Int32) <<< ((nI N) &&& 31)) - 1)), (0, .ref qy), (1, .int (nI pl))]) hx hb dX4_orderAt_10 rfl hl (by decide) rfl (fun ls hl => ?_)
  refine lv_iconst (v := 0) hx hb dX4_orderAt_11 (by decide) ?_
  refine lv_istore (lv' := [(4, .int 0), (3, .int (-1)), (2, .int (((1 : Int32) <<< ((nI N) &&& 31)) - 1)), (0, .ref qy), (1, .int (nI pl))]) hx hb dX4_orderAt_12 hl (by decide) rfl (fun ls hl => ?_)
  suffices loop : ∀ (n k : Nat) (its : Int32) (lf : Int32), k ≤ (pl + 1) → (pl + 1) < k + n → its = (if k = 0 then -1 else nI (arN N be (k - 1))) → lf = arL N be k → ∀ ls, lv_has ls 5 [(4, .int (nI k)), (3, .int its), (2, .int lf), (0, .ref qy), (1, .int (nI pl))] → W p l e { frames := 1, cells := 0, slots := 0, locals := 21 } s m ([.ref qy, .int (nI pl)] : List Value).toArray below meth c H0 [] 0 0 (MQ below (roQ (some (.int (nI (arN N be pl)))) H0) ([.ref qy, .int (nI pl)] : List Value).toArray s 0 0 (fun _ => False)) (F0 m 14 ls []) from loop ((pl + 1) + 1) 0 (-1) (((1 : Int32) <<< ((nI N) &&& 31)) - 1) (by omega) (by omega) (by first | rfl | (simp []; done) | (simp []; done)) (by first | rfl | (simp []; done) | (simp []; done)) _ (lv_sub hl [0, 1, 2, 3, 4] rfl)
  intro n
  induction n with
  | zero => intro k its lf hk1 hk2; exact absurd hk2 (by omega)
  | succ n ih14 =>
    intro k its lf hk14 hn14 eits elf ls hl
    refine lv_iload hx hb dX4_orderAt_14 (lv_at hl 0 rfl) ?_
    refine lv_iload_n hx hb dX4_orderAt_16 rfl (lv_at hl 4 rfl) ?_
    refine my_gtN (x := k) (y := pl) (tgt := 61) hx hb dX4_orderAt_17 (by decide) (by omega) (by omega) (fun h1 => ?_) (fun h1 => ?_)
    · obtain rfl : k = pl + 1 := by omega
      refine lv_iload_n hx hb dX4_orderAt_61 rfl (lv_at hl 1 rfl) ?_
      exact RO_zret hx hb hr hlk hH dX4_orderAt_62 (by rfl) (by rw [eits]; simp)
    · obtain ⟨hm1, hm2, hm3⟩ := arN_min (by omega) (hex k (by omega))
      rw [← elf] at hm2 hm3
      refine lv_iconst (v := 0) hx hb dX4_orderAt_20 (by decide) ?_
      refine lv_istore_n (lv' := [(3, .int 0), (4, .int (nI k)), (2, .int lf), (0, .ref qy), (1, .int (nI pl))]) hx hb dX4_orderAt_21 rfl hl (by decide) rfl (fun ls hl => ?_)
      suffices loop : ∀ (n q : Nat), q ≤ (arN N be k) → (arN N be k) < q + n → ∀ ls, lv_has ls 5 [(3, .int (nI q)), (4, .int (nI k)), (2, .int lf), (0, .ref qy), (1, .int (nI pl))] → W p l e { frames := 1, cells := 0, slots := 0, locals := 21 } s m ([.ref qy, .int (nI pl)] : List Value).toArray below meth c H0 [] 0 0 (MQ below (roQ (some (.int (nI (arN N be pl)))) H0) ([.ref qy, .int (nI pl)] : List Value).toArray s 0 0 (fun _ => False)) (F0 m 22 ls []) from loop ((arN N be k) + 1) 0  (by omega) (by omega) _ (lv_sub hl [0, 1, 2, 3, 4] rfl)
      intro n
      induction n with
      | zero => intro q  hk1 hk2; exact absurd hk2 (by omega)
      | succ n ih22 =>
        intro q  hk22 hn22  ls hl
        refine lv_iload_n hx hb dX4_orderAt_22 rfl (lv_at hl 2 rfl) ?_
        refine lv_iload_n hx hb dX4_orderAt_23 rfl (lv_at hl 0 rfl) ?_
        refine RO_go (va_runS (As := [.int lf, .int (nI q)]) (rest := []) ⟨hx, hb, hml, hown, hts⟩ (c_X4_has l (D := D) (cA := cA) (H0 := H0) (x := lf) (j := q) (hj := by omega)) (va_cwS 2 hts gX4_orderAt_X4_has rfl rfl rfl (by decide +kernel) ⟨Nat.le_of_ble_eq_true rfl, Nat.le_of_ble_eq_true rfl⟩) (cP_S hK) rfl rfl hl.1 rfl (lv_room (Nat.le_of_ble_eq_true rfl)) dX4_orderAt_24 ⟨by omega, by omega⟩) ?_
        refine my_ifeq_b (tgt := 41) hx hb dX4_orderAt_27 (by decide) (fun h2 => ?_) (fun h2 => ?_)
        · have hqn : q ≠ arN N be k := fun h9 => by rw [← h9] at hm2; simp [fre, h1, h2] at hm2
          refine lv_iinc (v := nI (q + 1)) (x := nI q) (lv' := [(3, .int (nI (q + 1))), (4, .int (nI k)), (2, .int lf), (0, .ref qy), (1, .int (nI pl))]) hx hb dX4_orderAt_41 hl (k := 0) rfl (nI_1 q) (by decide) rfl (fun ls hl => ?_)
          refine lv_goto (tgt := 22) hx hb dX4_orderAt_44 (by decide) ?_
          exact ih22 (q + 1)  (by omega) (by omega)  _ (lv_sub hl [0, 1, 2, 3, 4] rfl)
        · refine lv_aload_n hx hb dX4_orderAt_30 rfl (lv_at hl 3 rfl) ?_
          refine va_get (D := D) (ci := 4) (v := .ref qyb) (C := RX4) (T := TX4) (N := 7) hx hb hts hinX4 hown hK.1 hP 0 rfl rfl 3 (by decide) (hts (.fieldLink RX4 13 "CairnShellsModel" "beneath" "[I") (by decide +kernel)) (fun _ h9 => h9) rfl dX4_orderAt_31 ?_
          refine lv_iload_n hx hb dX4_orderAt_34 rfl (lv_at hl 0 rfl) ?_
          refine my_iald (D := D) (j := q) hx hb hK hP 1 rfl (by omega) (by decide) dX4_orderAt_35 ?_
          refine lv_iload_n hx hb dX4_orderAt_36 rfl (lv_at hl 2 rfl) ?_
          refine lv_iand hx hb dX4_orderAt_37 ?_
          refine lv_if_eq (tgt := 47) hx hb dX4_orderAt_38 (by decide) (fun h3 => ?_) (fun h3 => ?_)
          · have hqe : q = arN N be k := Nat.le_antisymm hk22 (Nat.le_of_not_lt (fun h9 => by have h8 := hm3 q h9; simp [fre, h1, h2, h3] at h8))
            subst hqe
            refine lv_iload_n hx hb dX4_orderAt_47 rfl (lv_at hl 2 rfl) ?_
            refine lv_iconst (v := 1) hx hb dX4_orderAt_48 (by decide) ?_
            refine lv_iload_n hx hb dX4_orderAt_49 rfl (lv_at hl 0 rfl) ?_
            refine lv_ishl hx hb dX4_orderAt_50 ?_
            refine lv_iconst (v := (-1)) hx hb dX4_orderAt_51 (by decide) ?_
            refine lv_ixor hx hb dX4_orderAt_52 ?_
            refine lv_iand hx hb dX4_orderAt_53 ?_
            refine lv_istore_n (lv' := [(2, .int (lf &&& (((1 : Int32) <<< ((nI (arN N be k)) &&& 31)) ^^^ (-1)))), (3, .int (nI (arN N be k))), (4, .int (nI k)), (0, .ref qy), (1, .int (nI pl))]) hx hb dX4_orderAt_54 rfl hl (by decide) rfl (fun ls hl => ?_)
            refine lv_iinc (v := nI (k + 1)) (x := nI k) (lv' := [(4, .int (nI (k + 1))), (2, .int (lf &&& (((1 : Int32) <<< ((nI (arN N be k)) &&& 31)) ^^^ (-1)))), (3, .int (nI (arN N be k))), (0, .ref qy), (1, .int (nI pl))]) hx hb dX4_orderAt_55 hl (k := 2) rfl (nI_1 k) (by decide) rfl (fun ls hl => ?_)
            refine lv_goto (tgt := 14) hx hb dX4_orderAt_58 (by decide) ?_
            exact ih14 (k + 1) (nI (arN N be k)) (lf &&& (((1 : Int32) <<< ((nI (arN N be k)) &&& 31)) ^^^ (-1))) (by omega) (by omega) (by first | (subst elf; rfl) | (simp; done) | rfl) (by first | (subst elf; rfl) | (simp; done) | rfl) _ (lv_sub hl [0, 2, 1, 3, 4] rfl)
          · have hqn : q ≠ arN N be k := fun h9 => by rw [← h9] at hm2; simp [fre, h1, h2, h3] at hm2
            refine lv_iinc (v := nI (q + 1)) (x := nI q) (lv' := [(3, .int (nI (q + 1))), (4, .int (nI k)), (2, .int lf), (0, .ref qy), (1, .int (nI pl))]) hx hb dX4_orderAt_41 hl (k := 0) rfl (nI_1 q) (by decide) rfl (fun ls hl => ?_)
            refine lv_goto (tgt := 22) hx hb dX4_orderAt_44 (by decide) ?_
            exact ih22 (q + 1)  (by omega) (by omega)  _ (lv_sub hl [0, 1, 2, 3, 4] rfl)
