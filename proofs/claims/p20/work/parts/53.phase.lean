set_option maxHeartbeats 4000000 in
set_option maxRecDepth 100000 in
theorem c_X4_phase (l : Launch) {D : va_G} {cA : ClassId} {H0 : Heap} {a N ab sm fi he sa la : Nat} {rsa rla rhe rfi : Nat → Nat} {al be fr tt mn : Nat → Int32} {to ph : Nat → Int32} (j : Nat) (hN : N ≤ 14) (hj : j < N) (hR : SR D cA H0 a N ab sm fi he sa la rsa rla rhe rfi al be fr tt mn) (hI : RI N al be to) (hp : PH N be ph) : LQ l yX4_phase wsX4_phase 0 0 17 240 [.ref a, .int (nI j)] D cA H0 (fun q => H0.size ≤ q) (fun v _ => v = some (.int (ph j))) := by
  refine LQ_of (cc := cX4_phase) (maxL := 10) (ret := (some .int)) (by decide) rfl (Nat.le_of_ble_eq_true rfl) ?_
  intro p e s m below meth c ls hx hb hml hr hown hts hlk hH hK hl
  have hown : s.vm.findClass RX4 = some m.cls := hown
  have hl : lv_has ls 10 [(0, .ref a), (1, .int (nI j))] := hl
  have hinX4 : ∀ w ∈ wsX40, w ∈ wsX4_phase := fun w h9 => List.mem_cons_of_mem _ (List.mem_append_right _ h9)
  have hS : va_S (fun q => H0.size ≤ q) H0 H0 [] := va_S.rf
  have hE : EX H0 H0 := KP.rf
  have hP : va_P D vwCl [] H0 := fun k q h => by simp at h
  have hD : va_D (fun q => H0.size ≤ q) [] := ⟨fun i j p q h => by simp at h, fun k q h => by simp at h⟩
  have hAz : ∀ (H : Heap) {q : Nat}, EX H0 H → q = H.size → (fun q => H0.size ≤ q) q := fun H q a b => by rw [b]; exact (by first | exact a.1 | exact Or.inr a.1 | exact Nat.le_trans hS0 a.1)
  have hpj := (hp.nat hN hj).2
  have hpe := (hp.nat hN hj).1
  refine lv_aload_n hx hb dX4_phase_0 rfl (lv_at hl 0 rfl) ?_
  refine fa_get (D := D) (ci := 4) (v := .int (nI N)) (C := RX4) (T := TX4) (N := 7) hx hb hts hinX4 hown hK hR.1 rfl 0 (by decide) (hts (.fieldLink RX4 25 "CairnShellsLaw$Sim" "n" "I") (by decide +kernel)) (fun _ h9 => h9) rfl dX4_phase_1 ?_
  refine fa_newZ (D := D) (N' := N) hx hb (hts (.arrayClass .boolean) (by decide +kernel)) hK hS (by omega) (by show _ ≤ 17; omega) (by show _ ≤ 240; omega) dX4_phase_4 (fun q1 H2 hq9 hq3 hE9 hS => ?_)
  obtain ⟨hP, hD⟩ := li_push hP hD hq9 hq3 hE9 (hAz H0 hE hq3)
  have hP : va_P D vwCl [(q1, .inl (D.1 10, N, .inl (fun _ => 0)))] H2 := hP
  have hD : va_D (fun q => H0.size ≤ q) [(q1, .inl (D.1 10, N, .inl (fun _ => 0)))] := hD
  have hfq1 : H0.size ≤ q1 := by rw [hq3]; exact hE.1
  have hE := KP.trans hE hE9
  refine lv_astore_n (lv' := [(2, .ref q1), (0, .ref a), (1, .int (nI j))]) hx hb dX4_phase_6 rfl hl (by decide) rfl (fun ls hl => ?_)
  refine lv_aload_n hx hb dX4_phase_7 rfl (lv_at hl 0 rfl) ?_
  refine lv_iload_n hx hb dX4_phase_8 rfl (lv_at hl 2 rfl) ?_
  refine lv_iconst (v := 1) hx hb dX4_phase_9 (by decide) ?_
  refine li_zast (D := D) (b := true) (j := j) hx hb hK hP hD hS 0 rfl (by omega) (by omega) dX4_phase_10 (fun H4 locs hP hD hS ho9 => ?_)
  have hP : va_P D vwCl [(q1, .inl (D.1 10, N, .inl (upd (fun _ => 0) j (bI true))))] H4 := hP
  have hD : va_D (fun q => H0.size ≤ q) [(q1, .inl (D.1 10, N, .inl (upd (fun _ => 0) j (bI true))))] := hD
  have hE := ho9.ex hE hfq1
  refine lv_iconst (v := (-1)) hx hb dX4_phase_11 (by decide) ?_
  refine lv_istore_n (lv' := [(3, .int (-1)), (2, .ref q1), (0, .ref a), (1, .int (nI j))]) hx hb dX4_phase_12 rfl hl (by decide) rfl (fun ls hl => ?_)
  refine lv_iconst (v := 1) hx hb dX4_phase_13 (by decide) ?_
  refine lv_istore (lv' := [(4, .int 1), (3, .int (-1)), (2, .ref q1), (0, .ref a), (1, .int (nI j))]) hx hb dX4_phase_14 hl (by decide) rfl (fun ls hl => ?_)
  have ew5 : (upd (fun _ => 0) j (bI true) : Nat → Int32) = (fun i9 => bI (lvB be N j 0 i9)) := lv_0w
  have hD : va_D (fun q => H0.size ≤ q) [(q1, .inl (D.1 10, N, .inl (fun i9 => bI (lvB be N j 0 i9))))] := by rw [← ew5]; exact hD.sub [0] (by decide) rfl
  have hP : va_P D vwCl [(q1, .inl (D.1 10, N, .inl (fun i9 => bI (lvB be N j 0 i9))))] H4 := by rw [← ew5]; exact hP.sub [0] rfl
  suffices lp16 : ∀ (n t : Nat) (ia : Int32) (st : Int32) (qa : Nat), t ≤ (pn ph j + 2) → (pn ph j + 2) < t + n → ia = bI (decide (t ≤ pn ph j + 1)) → st = nI t - 1 → ∀ (H6 : Heap) (locs : List Loc), va_P D vwCl [(qa, .inl (D.1 10, N, .inl (fun i9 => bI (lvB be N j t i9))))] H6 → va_D (fun q => H0.size ≤ q) [(qa, .inl (D.1 10, N, .inl (fun i9 => bI (lvB be N j t i9))))] → va_S (fun q => H0.size ≤ q) H0 H6 locs → EX H0 H6 → ∀ ls, lv_has ls 10 [(4, .int ia), (3, .int st), (2, .ref qa), (0, .ref a), (1, .int (nI j))] → W p l e { frames := 0, cells := 17, slots := 240, locals := 0 } s m ([.ref a, .int (nI j)] : List Value).toArray below meth c H6 locs ((0 + 1) + t * 1) ((0 + N) + t * 14) (MQ below (lqQ (fun v _ => v = some (.int (ph j))) (fun q => H0.size ≤ q) H0) ([.ref a, .int (nI j)] : List Value).toArray s 17 240 (fun q => H0.size ≤ q)) (F0 m 16 ls []) from W.widen (by omega) (by omega) (lp16 ((pn ph j + 2) + 1) 0 1 (-1) q1 (by omega) (by omega) (by first | rfl | (simp []; done) | decide) (by first | rfl | (simp []; done) | decide) _ _ hP hD hS hE  _ (lv_sub hl [0, 1, 2, 3, 4] rfl))
  intro n
  induction n with
  | zero => intro t ia st qa hk1 hk2; exact absurd hk2 (by omega)
  | succ n ih16 =>
    intro t ia st qa hk16 hn16 eia est  H6 locs hP hD hS hE  ls hl
    subst eia
    subst est
    refine lv_iload hx hb dX4_phase_16 (lv_at hl 0 rfl) ?_
    refine my_ifeq_b (tgt := 151) hx hb dX4_phase_18 (by decide) (fun h7 => ?_) (fun h7 => ?_)
    · have h9t : ¬ t ≤ pn ph j + 1 := of_decide_eq_false h7
      obtain rfl : t = pn ph j + 2 := by omega
      refine lv_iload_n hx hb dX4_phase_151 rfl (lv_at hl 1 rfl) ?_
      refine lv_iconst (v := 1) hx hb dX4_phase_152 (by decide) ?_
      refine lv_isub hx hb dX4_phase_153 ?_
      exact LQ_zret hx hb hr hlk dX4_phase_154 (by omega) (by omega) (by rw [hpe]; show some (Value.int (nI (pn ph j + 1 + 1) - 1 - 1)) = _; rw [nI_pred, nI_pred]) hS (by rfl)
    · have h9t : t ≤ pn ph j + 1 := of_decide_eq_true h7
      refine lv_iconst (v := 0) hx hb dX4_phase_21 (by decide) ?_
      refine lv_istore (lv' := [(4, .int 0), (3, .int (nI t - 1)), (2, .ref qa), (0, .ref a), (1, .int (nI j))]) hx hb dX4_phase_22 hl (by decide) rfl (fun ls hl => ?_)
      refine lv_aload_n hx hb dX4_phase_24 rfl (lv_at hl 3 rfl) ?_
      refine fa_get (D := D) (ci := 4) (v := .int (nI N)) (C := RX4) (T := TX4) (N := 7) hx hb hts hinX4 hown hK (EX.at hE hR.1) rfl 0 (by decide) (hts (.fieldLink RX4 25 "CairnShellsLaw$Sim" "n" "I") (by decide +kernel)) (fun _ h9 => h9) rfl dX4_phase_25 ?_
      refine fa_newZ (D := D) (N' := N) hx hb (hts (.arrayClass .boolean) (by decide +kernel)) hK hS (by omega) (by show _ ≤ 17; omega) (by show _ ≤ 240; omega) dX4_phase_28 (fun q8 H9 hq9 hq10 hE9 hS => ?_)
      obtain ⟨hP, hD⟩ := li_push hP hD hq9 hq10 hE9 (hAz H6 hE hq10)
      have hP : va_P D vwCl [(qa, .inl (D.1 10, N, .inl (fun i9 => bI (lvB be N j t i9)))), (q8, .inl (D.1 10, N, .inl (fun _ => 0)))] H9 := hP
      have hD : va_D (fun q => H0.size ≤ q) [(qa, .inl (D.1 10, N, .inl (fun i9 => bI (lvB be N j t i9)))), (q8, .inl (D.1 10, N, .inl (fun _ => 0)))] := hD
      have hfq8 : H0.size ≤ q8 := by rw [hq10]; exact hE.1
      have hE := KP.trans hE hE9
      refine lv_astore (lv' := [(5, .ref q8), (4, .int 0), (3, .int (nI t - 1)), (2, .ref qa), (0, .ref a), (1, .int (nI j))]) hx hb dX4_phase_30 hl (by decide) rfl (fun ls hl => ?_)
      refine lv_iconst (v := 0) hx hb dX4_phase_32 (by decide) ?_
      refine lv_istore (lv' := [(6, .int 0), (5, .ref q8), (4, .int 0), (3, .int (nI t - 1)), (2, .ref qa), (0, .ref a), (1, .int (nI j))]) hx hb dX4_phase_33 hl (by decide) rfl (fun ls hl => ?_)
      have ew11 : ((fun _ => 0) : Nat → Int32) = (fun i9 => bI (nxA be (lvB be N j t) N 0 i9)) := nx_0w
      have hD : va_D (fun q => H0.size ≤ q) [(qa, .inl (D.1 10, N, .inl (fun i9 => bI (lvB be N j t i9)))), (q8, .inl (D.1 10, N, .inl (fun i9 => bI (nxA be (lvB be N j t) N 0 i9))))] := by rw [← ew11]; exact hD.sub [0, 1] (by decide) rfl
      have hP : va_P D vwCl [(qa, .inl (D.1 10, N, .inl (fun i9 => bI (lvB be N j t i9)))), (q8, .inl (D.1 10, N, .inl (fun i9 => bI (nxA be (lvB be N j t) N 0 i9))))] H9 := by rw [← ew11]; exact hP.sub [0, 1] rfl
      suffices lp35 : ∀ (n x : Nat), x ≤ N → N < x + n → ∀ (H12 : Heap) (locs : List Loc), va_P D vwCl [(qa, .inl (D.1 10, N, .inl (fun i9 => bI (lvB be N j t i9)))), (q8, .inl (D.1 10, N, .inl (fun i9 => bI (nxA be (lvB be N j t) N x i9))))] H12 → va_D (fun q => H0.size ≤ q) [(qa, .inl (D.1 10, N, .inl (fun i9 => bI (lvB be N j t i9)))), (q8, .inl (D.1 10, N, .inl (fun i9 => bI (nxA be (lvB be N j t) N x i9))))] → va_S (fun q => H0.size ≤ q) H0 H12 locs → EX H0 H12 → ∀ ls, lv_has ls 10 [(6, .int (nI x)), (5, .ref q8), (4, .int 0), (3, .int (nI t - 1)), (2, .ref qa), (0, .ref a), (1, .int (nI j))] → W p l e { frames := 0, cells := 17, slots := 240, locals := 0 } s m ([.ref a, .int (nI j)] : List Value).toArray below meth c H12 locs ((0 + 1) + t * 1 + 1) ((0 + N) + t * 14 + N) (MQ below (lqQ (fun v _ => v = some (.int (ph j))) (fun q => H0.size ≤ q) H0) ([.ref a, .int (nI j)] : List Value).toArray s 17 240 (fun q => H0.size ≤ q)) (F0 m 35 ls []) from lp35 (N + 1) 0  (by omega) (by omega)  _ _ hP hD hS hE  _ (lv_sub hl [0, 1, 2, 3, 4, 5, 6] rfl)
      intro n
      induction n with
      | zero => intro x  hk1 hk2; exact absurd hk2 (by omega)
      | succ n ih35 =>
        intro x  hk35 hn35   H12 locs hP hD hS hE  ls hl
        refine lv_iload hx hb dX4_phase_35 (lv_at hl 0 rfl) ?_
        refine lv_aload_n hx hb dX4_phase_37 rfl (lv_at hl 5 rfl) ?_
        refine fa_get (D := D) (ci := 4) (v := .int (nI N)) (C := RX4) (T := TX4) (N := 7) hx hb hts hinX4 hown hK (EX.at hE hR.1) rfl 0 (by decide) (hts (.fieldLink RX4 25 "CairnShellsLaw$Sim" "n" "I") (by decide +kernel)) (fun _ h9 => h9) rfl dX4_phase_38 ?_
        refine my_geN (x := x) (y := N) (tgt := 94) hx hb dX4_phase_41 (by decide) (by omega) (by omega) (fun h13 => ?_) (fun h13 => ?_)
        · obtain rfl : N = x := by omega
          refine lv_aload_n hx hb dX4_phase_94 rfl (lv_at hl 4 rfl) ?_
          refine lv_astore (lv' := [(6, .ref qa), (5, .ref q8), (4, .int 0), (3, .int (nI t - 1)), (2, .ref qa), (0, .ref a), (1, .int (nI j))]) hx hb dX4_phase_95 hl (by decide) rfl (fun ls hl => ?_)
          refine lv_aload hx hb dX4_phase_97 (lv_at hl 0 rfl) ?_
          refine fa_alen 1 hx hb hK rfl (hP 0 _ rfl) dX4_phase_99 ?_
          refine W.eq (g2 := F0 m 100 ls [.int (nI N)]) rfl ?_
          refine lv_istore (lv' := [(7, .int (nI N)), (6, .ref qa), (5, .ref q8), (4, .int 0), (3, .int (nI t - 1)), (2, .ref qa), (0, .ref a), (1, .int (nI j))]) hx hb dX4_phase_100 hl (by decide) rfl (fun ls hl => ?_)
          refine lv_iconst (v := 0) hx hb dX4_phase_102 (by decide) ?_
          refine lv_istore (lv' := [(8, .int 0), (7, .int (nI N)), (6, .ref qa), (5, .ref q8), (4, .int 0), (3, .int (nI t - 1)), (2, .ref qa), (0, .ref a), (1, .int (nI j))]) hx hb dX4_phase_103 hl (by decide) rfl (fun ls hl => ?_)
          suffices lp105 : ∀ (n z : Nat) (ib : Int32), z ≤ N → N < z + n → ib = bI (anyB (lvB be N j t) z) → ∀ (H14 : Heap) (locs : List Loc), va_P D vwCl [(qa, .inl (D.1 10, N, .inl (fun i9 => bI (lvB be N j t i9)))), (q8, .inl (D.1 10, N, .inl (fun i9 => bI (nxA be (lvB be N j t) N N i9))))] H14 → va_D (fun q => H0.size ≤ q) [(qa, .inl (D.1 10, N, .inl (fun i9 => bI (lvB be N j t i9)))), (q8, .inl (D.1 10, N, .inl (fun i9 => bI (nxA be (lvB be N j t) N N i9))))] → va_S (fun q => H0.size ≤ q) H0 H14 locs → EX H0 H14 → ∀ ls, lv_has ls 10 [(8, .int (nI z)), (7, .int (nI N)), (6, .ref qa), (5, .ref q8), (4, .int ib), (3, .int (nI t - 1)), (2, .ref qa), (0, .ref a), (1, .int (nI j))] → W p l e { frames := 0, cells := 17, slots := 240, locals := 0 } s m ([.ref a, .int (nI j)] : List Value).toArray below meth c H14 locs ((0 + 1) + t * 1 + 1) ((0 + N) + t * 14 + N) (MQ below (lqQ (fun v _ => v = some (.int (ph j))) (fun q => H0.size ≤ q) H0) ([.ref a, .int (nI j)] : List Value).toArray s 17 240 (fun q => H0.size ≤ q)) (F0 m 105 ls []) from lp105 (N + 1) 0 0 (by omega) (by omega) (by first | rfl | (simp []; done) | decide) _ _ hP hD hS hE  _ (lv_sub hl [0, 1, 2, 3, 4, 5, 6, 7, 8] rfl)
          intro n
          induction n with
          | zero => intro z ib hk1 hk2; exact absurd hk2 (by omega)
          | succ n ih105 =>
            intro z ib hk105 hn105 eib  H14 locs hP hD hS hE  ls hl
            subst eib
            refine lv_iload hx hb dX4_phase_105 (lv_at hl 0 rfl) ?_
            refine lv_iload hx hb dX4_phase_107 (lv_at hl 1 rfl) ?_
            refine my_geN (x := z) (y := N) (tgt := 142) hx hb dX4_phase_109 (by decide) (by omega) (by omega) (fun h15 => ?_) (fun h15 => ?_)
            · obtain rfl : N = z := by omega
              refine lv_aload hx hb dX4_phase_142 (lv_at hl 3 rfl) ?_
              refine lv_astore_n (lv' := [(2, .ref q8), (8, .int (nI N)), (7, .int (nI N)), (6, .ref qa), (5, .ref q8), (4, .int (bI (anyB (lvB be N j t) N))), (3, .int (nI t - 1)), (0, .ref a), (1, .int (nI j))]) hx hb dX4_phase_144 rfl hl (by decide) rfl (fun ls hl => ?_)
              refine lv_iinc (v := (nI t - 1) + 1) (x := nI t - 1) (lv' := [(3, .int ((nI t - 1) + 1)), (2, .ref q8), (8, .int (nI N)), (7, .int (nI N)), (6, .ref qa), (5, .ref q8), (4, .int (bI (anyB (lvB be N j t) N))), (0, .ref a), (1, .int (nI j))]) hx hb dX4_phase_145 hl (k := 6) rfl rfl (by decide) rfl (fun ls hl => ?_)
              refine lv_goto (tgt := 16) hx hb dX4_phase_148 (by decide) ?_
              have ew16 : ((fun i9 => bI (nxA be (lvB be N j t) N N i9)) : Nat → Int32) = (fun i9 => bI (lvB be N j (t + 1) i9)) := rfl
              have hD : va_D (fun q => H0.size ≤ q) [(q8, .inl (D.1 10, N, .inl (fun i9 => bI (lvB be N j (t + 1) i9))))] := by rw [← ew16]; exact hD.sub [1] (by decide) rfl
              have hP : va_P D vwCl [(q8, .inl (D.1 10, N, .inl (fun i9 => bI (lvB be N j (t + 1) i9))))] H14 := by rw [← ew16]; exact hP.sub [1] rfl
              exact W.widen (by omega) (by omega) (ih16 (t + 1) (bI (anyB (lvB be N j t) N)) ((nI t - 1) + 1) q8 (by omega) (by omega) (congrArg bI (lv_any hI hp hN hj t)) (stp t) _ _ hP hD hS hE  _ (lv_sub hl [6, 0, 1, 7, 8] rfl))
            · refine lv_aload hx hb dX4_phase_112 (lv_at hl 2 rfl) ?_
              refine lv_iload hx hb dX4_phase_114 (lv_at hl 0 rfl) ?_
              refine fa_zald (D := D) (j := z) hx hb hK (hP 0 _ rfl) (by omega) (by omega) dX4_phase_116 ?_
              refine lv_istore (lv' := [(9, .int (bI (lvB be N j t z))), (8, .int (nI z)), (7, .int (nI N)), (6, .ref qa), (5, .ref q8), (4, .int (bI (anyB (lvB be N j t) z))), (3, .int (nI t - 1)), (2, .ref qa), (0, .ref a), (1, .int (nI j))]) hx hb dX4_phase_117 hl (by decide) rfl (fun ls hl => ?_)
              suffices jn17 : ∀ ls, lv_has ls 10 [(9, .int (bI (lvB be N j t z))), (8, .int (nI z)), (7, .int (nI N)), (6, .ref qa), (5, .ref q8), (4, .int (bI (anyB (lvB be N j t) z))), (3, .int (nI t - 1)), (2, .ref qa), (0, .ref a), (1, .int (nI j))] → W p l e { frames := 0, cells := 17, slots := 240, locals := 0 } s m ([.ref a, .int (nI j)] : List Value).toArray below meth c H14 locs ((0 + 1) + t * 1 + 1) ((0 + N) + t * 14 + N) (MQ below (lqQ (fun v _ => v = some (.int (ph j))) (fun q => H0.size ≤ q) H0) ([.ref a, .int (nI j)] : List Value).toArray s 17 240 (fun q => H0.size ≤ q)) (F0 m 134 ls [.int (bI (anyB (lvB be N j t) z || lvB be N j t z))]) by
                refine lv_iload hx hb dX4_phase_119 (lv_at hl 5 rfl) ?_
                refine my_ifne_b (tgt := 129) hx hb dX4_phase_121 (by decide) (fun h18 => ?_) (fun h18 => ?_)
                · refine lv_iconst (v := 1) hx hb dX4_phase_129 (by decide) ?_
                  refine lv_goto (tgt := 134) hx hb dX4_phase_130 (by decide) ?_
                  have e9 : (1 : Int32) = bI (anyB (lvB be N j t) z || lvB be N j t z) := (by first | exact bI_of h18 | exact bI_of (by simp [h7, h13, h15, h18]))
                  exact W.eq (congrArg (fun v9 => F0 m 134 ls [.int v9]) e9) (jn17 _ hl)
                · refine lv_iload hx hb dX4_phase_124 (lv_at hl 0 rfl) ?_
                  refine my_ifeq_b (tgt := 133) hx hb dX4_phase_126 (by decide) (fun h19 => ?_) (fun h19 => ?_)
                  · refine lv_iconst (v := 0) hx hb dX4_phase_133 (by decide) ?_
                    have e9 : (0 : Int32) = bI (anyB (lvB be N j t) z || lvB be N j t z) := (by first | exact bI_no h19 | exact bI_no (by simp [h7, h13, h15, h18, h19]))
                    exact W.eq (congrArg (fun v9 => F0 m 134 ls [.int v9]) e9) (jn17 _ hl)
                  · refine lv_iconst (v := 1) hx hb dX4_phase_129 (by decide) ?_
                    refine lv_goto (tgt := 134) hx hb dX4_phase_130 (by decide) ?_
                    have e9 : (1 : Int32) = bI (anyB (lvB be N j t) z || lvB be N j t z) := (by first | exact bI_of h19 | exact bI_of (by simp [h7, h13, h15, h18, h19]))
                    exact W.eq (congrArg (fun v9 => F0 m 134 ls [.int v9]) e9) (jn17 _ hl)
              intro ls hl
              refine lv_istore (lv' := [(4, .int (bI (anyB (lvB be N j t) z || lvB be N j t z))), (9, .int (bI (lvB be N j t z))), (8, .int (nI z)), (7, .int (nI N)), (6, .ref qa), (5, .ref q8), (3, .int (nI t - 1)), (2, .ref qa), (0, .ref a), (1, .int (nI j))]) hx hb dX4_phase_134 hl (by decide) rfl (fun ls hl => ?_)
              refine lv_iinc (v := nI (z + 1)) (x := nI z) (lv' := [(8, .int (nI (z + 1))), (4, .int (bI (anyB (lvB be N j t) z || lvB be N j t z))), (9, .int (bI (lvB be N j t z))), (7, .int (nI N)), (6, .ref qa), (5, .ref q8), (3, .int (nI t - 1)), (2, .ref qa), (0, .ref a), (1, .int (nI j))]) hx hb dX4_phase_136 hl (k := 2) rfl (nI_1 z) (by decide) rfl (fun ls hl => ?_)
              refine lv_goto (tgt := 105) hx hb dX4_phase_139 (by decide) ?_
              exact ih105 (z + 1) (bI (anyB (lvB be N j t) z || lvB be N j t z)) (by omega) (by omega) rfl _ _ hP hD hS hE  _ (lv_sub hl [0, 3, 4, 5, 1, 6, 7, 8, 9] rfl)
        · refine lv_iconst (v := 0) hx hb dX4_phase_44 (by decide) ?_
          refine lv_istore (lv' := [(7, .int 0), (6, .int (nI x)), (5, .ref q8), (4, .int 0), (3, .int (nI t - 1)), (2, .ref qa), (0, .ref a), (1, .int (nI j))]) hx hb dX4_phase_45 hl (by decide) rfl (fun ls hl => ?_)
          have ew20 : ((fun i9 => bI (nxA be (lvB be N j t) N x i9)) : Nat → Int32) = (fun i9 => bI (nxB be (lvB be N j t) N x 0 i9)) := nx_b0
          have hD : va_D (fun q => H0.size ≤ q) [(qa, .inl (D.1 10, N, .inl (fun i9 => bI (lvB be N j t i9)))), (q8, .inl (D.1 10, N, .inl (fun i9 => bI (nxB be (lvB be N j t) N x 0 i9))))] := by rw [← ew20]; exact hD.sub [0, 1] (by decide) rfl
          have hP : va_P D vwCl [(qa, .inl (D.1 10, N, .inl (fun i9 => bI (lvB be N j t i9)))), (q8, .inl (D.1 10, N, .inl (fun i9 => bI (nxB be (lvB be N j t) N x 0 i9))))] H12 := by rw [← ew20]; exact hP.sub [0, 1] rfl
          suffices lp47 : ∀ (n y : Nat), y ≤ N → N < y + n → ∀ (H21 : Heap) (locs : List Loc), va_P D vwCl [(qa, .inl (D.1 10, N, .inl (fun i9 => bI (lvB be N j t i9)))), (q8, .inl (D.1 10, N, .inl (fun i9 => bI (nxB be (lvB be N j t) N x y i9))))] H21 → va_D (fun q => H0.size ≤ q) [(qa, .inl (D.1 10, N, .inl (fun i9 => bI (lvB be N j t i9)))), (q8, .inl (D.1 10, N, .inl (fun i9 => bI (nxB be (lvB be N j t) N x y i9))))] → va_S (fun q => H0.size ≤ q) H0 H21 locs → EX H0 H21 → ∀ ls, lv_has ls 10 [(7, .int (nI y)), (6, .int (nI x)), (5, .ref q8), (4, .int 0), (3, .int (nI t - 1)), (2, .ref qa), (0, .ref a), (1, .int (nI j))] → W p l e { frames := 0, cells := 17, slots := 240, locals := 0 } s m ([.ref a, .int (nI j)] : List Value).toArray below meth c H21 locs ((0 + 1) + t * 1 + 1) ((0 + N) + t * 14 + N) (MQ below (lqQ (fun v _ => v = some (.int (ph j))) (fun q => H0.size ≤ q) H0) ([.ref a, .int (nI j)] : List Value).toArray s 17 240 (fun q => H0.size ≤ q)) (F0 m 47 ls []) from lp47 (N + 1) 0  (by omega) (by omega)  _ _ hP hD hS hE  _ (lv_sub hl [0, 1, 2, 3, 4, 5, 6, 7] rfl)
          intro n
          induction n with
          | zero => intro y  hk1 hk2; exact absurd hk2 (by omega)
          | succ n ih47 =>
            intro y  hk47 hn47   H21 locs hP hD hS hE  ls hl
            refine lv_iload hx hb dX4_phase_47 (lv_at hl 0 rfl) ?_
            refine lv_aload_n hx hb dX4_phase_49 rfl (lv_at hl 6 rfl) ?_
            refine fa_get (D := D) (ci := 4) (v := .int (nI N)) (C := RX4) (T := TX4) (N := 7) hx hb hts hinX4 hown hK (EX.at hE hR.1) rfl 0 (by decide) (hts (.fieldLink RX4 25 "CairnShellsLaw$Sim" "n" "I") (by decide +kernel)) (fun _ h9 => h9) rfl dX4_phase_50 ?_
            refine my_geN (x := y) (y := N) (tgt := 88) hx hb dX4_phase_53 (by decide) (by omega) (by omega) (fun h22 => ?_) (fun h22 => ?_)
            · obtain rfl : N = y := by omega
              refine lv_iinc (v := nI (x + 1)) (x := nI x) (lv' := [(6, .int (nI (x + 1))), (7, .int (nI N)), (5, .ref q8), (4, .int 0), (3, .int (nI t - 1)), (2, .ref qa), (0, .ref a), (1, .int (nI j))]) hx hb dX4_phase_88 hl (k := 1) rfl (nI_1 x) (by decide) rfl (fun ls hl => ?_)
              refine lv_goto (tgt := 35) hx hb dX4_phase_91 (by decide) ?_
              have ew23 : ((fun i9 => bI (nxB be (lvB be N j t) N x N i9)) : Nat → Int32) = (fun i9 => bI (nxA be (lvB be N j t) N (x + 1) i9)) := nx_bN
              have hD : va_D (fun q => H0.size ≤ q) [(qa, .inl (D.1 10, N, .inl (fun i9 => bI (lvB be N j t i9)))), (q8, .inl (D.1 10, N, .inl (fun i9 => bI (nxA be (lvB be N j t) N (x + 1) i9))))] := by rw [← ew23]; exact hD.sub [0, 1] (by decide) rfl
              have hP : va_P D vwCl [(qa, .inl (D.1 10, N, .inl (fun i9 => bI (lvB be N j t i9)))), (q8, .inl (D.1 10, N, .inl (fun i9 => bI (nxA be (lvB be N j t) N (x + 1) i9))))] H21 := by rw [← ew23]; exact hP.sub [0, 1] rfl
              exact ih35 (x + 1)  (by omega) (by omega)  _ _ hP hD hS hE  _ (lv_sub hl [0, 2, 3, 4, 5, 6, 7] rfl)
            · refine lv_aload_n hx hb dX4_phase_56 rfl (lv_at hl 5 rfl) ?_
              refine lv_iload hx hb dX4_phase_57 (lv_at hl 1 rfl) ?_
              refine fa_zald (D := D) (j := x) hx hb hK (hP 0 _ rfl) (by omega) (by omega) dX4_phase_59 ?_
              refine my_ifeq_b (tgt := 82) hx hb dX4_phase_60 (by decide) (fun h24 => ?_) (fun h24 => ?_)
              · refine lv_iinc (v := nI (y + 1)) (x := nI y) (lv' := [(7, .int (nI (y + 1))), (6, .int (nI x)), (5, .ref q8), (4, .int 0), (3, .int (nI t - 1)), (2, .ref qa), (0, .ref a), (1, .int (nI j))]) hx hb dX4_phase_82 hl (k := 0) rfl (nI_1 y) (by decide) rfl (fun ls hl => ?_)
                refine lv_goto (tgt := 47) hx hb dX4_phase_85 (by decide) ?_
                have ew25 : ((fun i9 => bI (nxB be (lvB be N j t) N x y i9)) : Nat → Int32) = (fun i9 => bI (nxB be (lvB be N j t) N x (y + 1) i9)) := (nx_no (by simp [h24]))
                have hD : va_D (fun q => H0.size ≤ q) [(qa, .inl (D.1 10, N, .inl (fun i9 => bI (lvB be N j t i9)))), (q8, .inl (D.1 10, N, .inl (fun i9 => bI (nxB be (lvB be N j t) N x (y + 1) i9))))] := by rw [← ew25]; exact hD.sub [0, 1] (by decide) rfl
                have hP : va_P D vwCl [(qa, .inl (D.1 10, N, .inl (fun i9 => bI (lvB be N j t i9)))), (q8, .inl (D.1 10, N, .inl (fun i9 => bI (nxB be (lvB be N j t) N x (y + 1) i9))))] H21 := by rw [← ew25]; exact hP.sub [0, 1] rfl
                exact ih47 (y + 1)  (by omega) (by omega)  _ _ hP hD hS hE  _ (lv_sub hl [0, 1, 2, 3, 4, 5, 6, 7] rfl)
              · refine lv_aload_n hx hb dX4_phase_63 rfl (lv_at hl 6 rfl) ?_
                refine fa_get (D := D) (ci := 4) (v := .ref la) (C := RX4) (T := TX4) (N := 7) hx hb hts hinX4 hown hK (EX.at hE hR.1) rfl 6 (by decide) (hts (.fieldLink RX4 34 "CairnShellsLaw$Sim" "later" "[[Z") (by decide +kernel)) (fun _ h9 => h9) rfl dX4_phase_64 ?_
                refine lv_iload hx hb dX4_phase_67 (lv_at hl 1 rfl) ?_
                refine fa_aald 3 hx hb hK rfl rfl (EX.at hE hR.2.2.1.1) rfl (by omega) (by omega) dX4_phase_69 ?_
                refine lv_iload hx hb dX4_phase_70 (lv_at hl 0 rfl) ?_
                refine fa_zald (D := D) (j := y) hx hb hK (EX.at hE (hR.2.2.1.2 x (by omega))) (by omega) (by omega) dX4_phase_72 ?_
                refine my_ifeq_b (tgt := 82) hx hb dX4_phase_73 (by decide) (fun h26 => ?_) (fun h26 => ?_)
                · refine lv_iinc (v := nI (y + 1)) (x := nI y) (lv' := [(7, .int (nI (y + 1))), (6, .int (nI x)), (5, .ref q8), (4, .int 0), (3, .int (nI t - 1)), (2, .ref qa), (0, .ref a), (1, .int (nI j))]) hx hb dX4_phase_82 hl (k := 0) rfl (nI_1 y) (by decide) rfl (fun ls hl => ?_)
                  refine lv_goto (tgt := 47) hx hb dX4_phase_85 (by decide) ?_
                  have ew27 : ((fun i9 => bI (nxB be (lvB be N j t) N x y i9)) : Nat → Int32) = (fun i9 => bI (nxB be (lvB be N j t) N x (y + 1) i9)) := (nx_no (by simp [h26]))
                  have hD : va_D (fun q => H0.size ≤ q) [(qa, .inl (D.1 10, N, .inl (fun i9 => bI (lvB be N j t i9)))), (q8, .inl (D.1 10, N, .inl (fun i9 => bI (nxB be (lvB be N j t) N x (y + 1) i9))))] := by rw [← ew27]; exact hD.sub [0, 1] (by decide) rfl
                  have hP : va_P D vwCl [(qa, .inl (D.1 10, N, .inl (fun i9 => bI (lvB be N j t i9)))), (q8, .inl (D.1 10, N, .inl (fun i9 => bI (nxB be (lvB be N j t) N x (y + 1) i9))))] H21 := by rw [← ew27]; exact hP.sub [0, 1] rfl
                  exact ih47 (y + 1)  (by omega) (by omega)  _ _ hP hD hS hE  _ (lv_sub hl [0, 1, 2, 3, 4, 5, 6, 7] rfl)
                · refine lv_aload hx hb dX4_phase_76 (lv_at hl 2 rfl) ?_
                  refine lv_iload hx hb dX4_phase_78 (lv_at hl 0 rfl) ?_
                  refine lv_iconst (v := 1) hx hb dX4_phase_80 (by decide) ?_
                  refine li_zast (D := D) (b := true) (j := y) hx hb hK hP hD hS 1 rfl (by omega) (by omega) dX4_phase_81 (fun H28 locs hP hD hS ho9 => ?_)
                  have hP : va_P D vwCl [(qa, .inl (D.1 10, N, .inl (fun i9 => bI (lvB be N j t i9)))), (q8, .inl (D.1 10, N, .inl (upd (fun i9 => bI (nxB be (lvB be N j t) N x y i9)) y (bI true))))] H28 := hP
                  have hD : va_D (fun q => H0.size ≤ q) [(qa, .inl (D.1 10, N, .inl (fun i9 => bI (lvB be N j t i9)))), (q8, .inl (D.1 10, N, .inl (upd (fun i9 => bI (nxB be (lvB be N j t) N x y i9)) y (bI true))))] := hD
                  have hE := ho9.ex hE hfq8
                  refine lv_iinc (v := nI (y + 1)) (x := nI y) (lv' := [(7, .int (nI (y + 1))), (6, .int (nI x)), (5, .ref q8), (4, .int 0), (3, .int (nI t - 1)), (2, .ref qa), (0, .ref a), (1, .int (nI j))]) hx hb dX4_phase_82 hl (k := 0) rfl (nI_1 y) (by decide) rfl (fun ls hl => ?_)
                  refine lv_goto (tgt := 47) hx hb dX4_phase_85 (by decide) ?_
                  have ew29 : (upd (fun i9 => bI (nxB be (lvB be N j t) N x y i9)) y (bI true) : Nat → Int32) = (fun i9 => bI (nxB be (lvB be N j t) N x (y + 1) i9)) := (nx_st h24 h26)
                  have hD : va_D (fun q => H0.size ≤ q) [(qa, .inl (D.1 10, N, .inl (fun i9 => bI (lvB be N j t i9)))), (q8, .inl (D.1 10, N, .inl (fun i9 => bI (nxB be (lvB be N j t) N x (y + 1) i9))))] := by rw [← ew29]; exact hD.sub [0, 1] (by decide) rfl
                  have hP : va_P D vwCl [(qa, .inl (D.1 10, N, .inl (fun i9 => bI (lvB be N j t i9)))), (q8, .inl (D.1 10, N, .inl (fun i9 => bI (nxB be (lvB be N j t) N x (y + 1) i9))))] H28 := by rw [← ew29]; exact hP.sub [0, 1] rfl
                  exact ih47 (y + 1)  (by omega) (by omega)  _ _ hP hD hS hE  _ (lv_sub hl [0, 1, 2, 3, 4, 5, 6, 7] rfl)
