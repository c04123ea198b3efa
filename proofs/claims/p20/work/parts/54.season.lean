set_option maxHeartbeats 4000000 in
set_option maxRecDepth 100000 in
theorem c_X4_season (l : Launch) {D : va_G} {cA : ClassId} {H0 : Heap} {a o : Nat} {f : Nat → Int32} (ho : AT D o (.inl (cA, 4, .inl f)) H0) : LQ l yX4_season wsX4_season 0 0 1 4 [.ref a, .ref o] D cA H0 (fun q => H0.size ≤ q) (fun v _ => v = some (.int (sSe (f 0) (f 1) (f 2) (f 3)))) := by
  refine LQ_of (cc := cX4_season) (maxL := 5) (ret := (some .int)) (by decide) rfl (Nat.le_of_ble_eq_true rfl) ?_
  intro p e s m below meth c ls hx hb hml hr hown hts hlk hH hK hl
  have hown : s.vm.findClass RX4 = some m.cls := hown
  have hl : lv_has ls 5 [(0, .ref a), (1, .ref o)] := hl
  have hS : va_S (fun q => H0.size ≤ q) H0 H0 [] := va_S.rf
  have hE : EX H0 H0 := KP.rf
  have hP : va_P D vwCl [] H0 := fun k q h => by simp at h
  have hD : va_D (fun q => H0.size ≤ q) [] := ⟨fun i j p q h => by simp at h, fun k q h => by simp at h⟩
  have hAz : ∀ (H : Heap) {q : Nat}, EX H0 H → q = H.size → (fun q => H0.size ≤ q) q := fun H q a b => by rw [b]; exact (by first | exact a.1 | exact Or.inr a.1 | exact Nat.le_trans hS0 a.1)
  refine lv_iconst (v := 4) hx hb dX4_season_0 (by decide) ?_
  refine fa_newI (D := D) (N' := 4) hx hb (hts (.arrayClass .int) (by decide +kernel)) hK hS (by omega) (by show _ ≤ 1; omega) (by show _ ≤ 4; omega) dX4_season_1 (fun q1 H2 hq9 hq3 hE9 hS => ?_)
  obtain ⟨hP, hD⟩ := li_push hP hD hq9 hq3 hE9 (hAz H0 hE hq3)
  have hP : va_P D vwCl [(q1, .inl (cA, 4, .inl (fun _ => 0)))] H2 := hP
  have hD : va_D (fun q => H0.size ≤ q) [(q1, .inl (cA, 4, .inl (fun _ => 0)))] := hD
  have hfq1 : H0.size ≤ q1 := by rw [hq3]; exact hE.1
  have hE := KP.trans hE hE9
  refine lv_dup hx hb dX4_season_3 rfl ?_
  refine lv_iconst (v := 0) hx hb dX4_season_4 (by decide) ?_
  refine lv_iconst (v := 3) hx hb dX4_season_5 (by decide) ?_
  refine lv_aload_n hx hb dX4_season_6 rfl (lv_at hl 1 rfl) ?_
  refine lv_iconst (v := 0) hx hb dX4_season_7 (by decide) ?_
  refine fa_iald (D := D) (j := 0) hx hb hK (EX.at hE ho) (by omega) (by omega) dX4_season_8 ?_
  refine lv_imul hx hb dX4_season_9 ?_
  refine lv_aload_n hx hb dX4_season_10 rfl (lv_at hl 1 rfl) ?_
  refine lv_iconst (v := 3) hx hb dX4_season_11 (by decide) ?_
  refine fa_iald (D := D) (j := 3) hx hb hK (EX.at hE ho) (by omega) (by omega) dX4_season_12 ?_
  refine lv_iadd hx hb dX4_season_13 ?_
  refine li_iast (D := D) (j := 0) hx hb hK hP hD hS 0 rfl (by omega) (by omega) dX4_season_14 (fun H4 locs hP hD hS ho9 => ?_)
  have hP : va_P D vwCl [(q1, .inl (cA, 4, .inl (upd (fun _ => 0) 0 ((3 * (f 0)) + (f 3)))))] H4 := hP
  have hD : va_D (fun q => H0.size ≤ q) [(q1, .inl (cA, 4, .inl (upd (fun _ => 0) 0 ((3 * (f 0)) + (f 3)))))] := hD
  have hE := ho9.ex hE hfq1
  refine lv_dup hx hb dX4_season_15 rfl ?_
  refine lv_iconst (v := 1) hx hb dX4_season_16 (by decide) ?_
  refine lv_iconst (v := 2) hx hb dX4_season_17 (by decide) ?_
  refine lv_aload_n hx hb dX4_season_18 rfl (lv_at hl 1 rfl) ?_
  refine lv_iconst (v := 1) hx hb dX4_season_19 (by decide) ?_
  refine fa_iald (D := D) (j := 1) hx hb hK (EX.at hE ho) (by omega) (by omega) dX4_season_20 ?_
  refine lv_imul hx hb dX4_season_21 ?_
  refine lv_aload_n hx hb dX4_season_22 rfl (lv_at hl 1 rfl) ?_
  refine lv_iconst (v := 2) hx hb dX4_season_23 (by decide) ?_
  refine fa_iald (D := D) (j := 2) hx hb hK (EX.at hE ho) (by omega) (by omega) dX4_season_24 ?_
  refine lv_iconst (v := 2) hx hb dX4_season_25 (by decide) ?_
  refine lv_idiv hx hb dX4_season_26 (by decide) ?_
  refine lv_iadd hx hb dX4_season_27 ?_
  refine li_iast (D := D) (j := 1) hx hb hK hP hD hS 0 rfl (by omega) (by omega) dX4_season_28 (fun H5 locs hP hD hS ho9 => ?_)
  have hP : va_P D vwCl [(q1, .inl (cA, 4, .inl (upd (upd (fun _ => 0) 0 ((3 * (f 0)) + (f 3))) 1 ((2 * (f 1)) + ((f 2) / 2)))))] H5 := hP
  have hD : va_D (fun q => H0.size ≤ q) [(q1, .inl (cA, 4, .inl (upd (upd (fun _ => 0) 0 ((3 * (f 0)) + (f 3))) 1 ((2 * (f 1)) + ((f 2) / 2)))))] := hD
  have hE := ho9.ex hE hfq1
  refine lv_dup hx hb dX4_season_29 rfl ?_
  refine lv_iconst (v := 2) hx hb dX4_season_30 (by decide) ?_
  refine lv_iconst (v := 2) hx hb dX4_season_31 (by decide) ?_
  refine lv_aload_n hx hb dX4_season_32 rfl (lv_at hl 1 rfl) ?_
  refine lv_iconst (v := 2) hx hb dX4_season_33 (by decide) ?_
  refine fa_iald (D := D) (j := 2) hx hb hK (EX.at hE ho) (by omega) (by omega) dX4_season_34 ?_
  refine lv_imul hx hb dX4_season_35 ?_
  refine lv_aload_n hx hb dX4_season_36 rfl (lv_at hl 1 rfl) ?_
  refine lv_iconst (v := 1) hx hb dX4_season_37 (by decide) ?_
  refine fa_iald (D := D) (j := 1) hx hb hK (EX.at hE ho) (by omega) (by omega) dX4_season_38 ?_
  refine lv_iadd hx hb dX4_season_39 ?_
  refine li_iast (D := D) (j := 2) hx hb hK hP hD hS 0 rfl (by omega) (by omega) dX4_season_40 (fun H6 locs hP hD hS ho9 => ?_)
  have hP : va_P D vwCl [(q1, .inl (cA, 4, .inl (upd (upd (upd (fun _ => 0) 0 ((3 * (f 0)) + (f 3))) 1 ((2 * (f 1)) + ((f 2) / 2))) 2 ((2 * (f 2)) + (f 1)))))] H6 := hP
  have hD : va_D (fun q => H0.size ≤ q) [(q1, .inl (cA, 4, .inl (upd (upd (upd (fun _ => 0) 0 ((3 * (f 0)) + (f 3))) 1 ((2 * (f 1)) + ((f 2) / 2))) 2 ((2 * (f 2)) + (f 1)))))] := hD
  have hE := ho9.ex hE hfq1
  refine lv_dup hx hb dX4_season_41 rfl ?_
  refine lv_iconst (v := 3) hx hb dX4_season_42 (by decide) ?_
  refine lv_iconst (v := 4) hx hb dX4_season_43 (by decide) ?_
  refine lv_aload_n hx hb dX4_season_44 rfl (lv_at hl 1 rfl) ?_
  refine lv_iconst (v := 3) hx hb dX4_season_45 (by decide) ?_
  refine fa_iald (D := D) (j := 3) hx hb hK (EX.at hE ho) (by omega) (by omega) dX4_season_46 ?_
  refine lv_imul hx hb dX4_season_47 ?_
  refine lv_aload_n hx hb dX4_season_48 rfl (lv_at hl 1 rfl) ?_
  refine lv_iconst (v := 0) hx hb dX4_season_49 (by decide) ?_
  refine fa_iald (D := D) (j := 0) hx hb hK (EX.at hE ho) (by omega) (by omega) dX4_season_50 ?_
  refine lv_iadd hx hb dX4_season_51 ?_
  refine li_iast (D := D) (j := 3) hx hb hK hP hD hS 0 rfl (by omega) (by omega) dX4_season_52 (fun H7 locs hP hD hS ho9 => ?_)
  have hP : va_P D vwCl [(q1, .inl (cA, 4, .inl (upd (upd (upd (upd (fun _ => 0) 0 ((3 * (f 0)) + (f 3))) 1 ((2 * (f 1)) + ((f 2) / 2))) 2 ((2 * (f 2)) + (f 1))) 3 ((4 * (f 3)) + (f 0)))))] H7 := hP
  have hD : va_D (fun q => H0.size ≤ q) [(q1, .inl (cA, 4, .inl (upd (upd (upd (upd (fun _ => 0) 0 ((3 * (f 0)) + (f 3))) 1 ((2 * (f 1)) + ((f 2) / 2))) 2 ((2 * (f 2)) + (f 1))) 3 ((4 * (f 3)) + (f 0)))))] := hD
  have hE := ho9.ex hE hfq1
  obtain ⟨w, hw⟩ : ∃ w : Nat → Int32, w = upd (upd (upd (upd (fun _ => 0) 0 ((3 * (f 0)) + (f 3))) 1 ((2 * (f 1)) + ((f 2) / 2))) 2 ((2 * (f 2)) + (f 1))) 3 ((4 * (f 3)) + (f 0)) := ⟨_, rfl⟩
  rw [← hw] at hP hD
  have hP : va_P D vwCl [(q1, .inl (cA, 4, .inl w))] H7 := hP
  have hD : va_D (fun q => H0.size ≤ q) [(q1, .inl (cA, 4, .inl w))] := hD
  have hwt : w = tel (f 0) (f 1) (f 2) (f 3) := hw
  refine lv_astore_n (lv' := [(2, .ref q1), (0, .ref a), (1, .ref o)]) hx hb dX4_season_53 rfl hl (by decide) rfl (fun ls hl => ?_)
  refine lv_iconst (v := 3) hx hb dX4_season_54 (by decide) ?_
  refine lv_istore_n (lv' := [(3, .int 3), (2, .ref q1), (0, .ref a), (1, .ref o)]) hx hb dX4_season_55 rfl hl (by decide) rfl (fun ls hl => ?_)
  refine lv_iconst (v := 2) hx hb dX4_season_56 (by decide) ?_
  refine lv_istore (lv' := [(4, .int 2), (3, .int 3), (2, .ref q1), (0, .ref a), (1, .ref o)]) hx hb dX4_season_57 hl (by decide) rfl (fun ls hl => ?_)
  refine lv_iload hx hb dX4_season_59 (lv_at hl 0 rfl) ?_
  refine lv_if_lt (tgt := 83) hx hb dX4_season_61 (by decide) (fun h => absurd h (by decide)) (fun _ => ?_)
  refine lv_aload_n hx hb dX4_season_64 rfl (lv_at hl 2 rfl) ?_
  refine lv_iload hx hb dX4_season_65 (lv_at hl 0 rfl) ?_
  refine fa_iald (D := D) (j := 2) hx hb hK (hP 0 _ rfl) (by omega) (by omega) dX4_season_67 ?_
  refine lv_aload_n hx hb dX4_season_68 rfl (lv_at hl 2 rfl) ?_
  refine lv_iload_n hx hb dX4_season_69 rfl (lv_at hl 1 rfl) ?_
  refine fa_iald (D := D) (j := 3) hx hb hK (hP 0 _ rfl) (by omega) (by omega) dX4_season_70 ?_
  refine lv_icmp_lt (tgt := 77) hx hb dX4_season_71 (by decide) (fun h9 => ?_) (fun h9 => ?_)
  · refine lv_iinc (v := 1) (x := 2) (lv' := [(4, .int 1), (3, .int 3), (2, .ref q1), (0, .ref a), (1, .ref o)]) hx hb dX4_season_77 hl (k := 0) rfl rfl (by decide) rfl (fun ls hl => ?_)
    refine lv_goto (tgt := 59) hx hb dX4_season_80 (by decide) ?_
    refine lv_iload hx hb dX4_season_59 (lv_at hl 0 rfl) ?_
    refine lv_if_lt (tgt := 83) hx hb dX4_season_61 (by decide) (fun h => absurd h (by decide)) (fun _ => ?_)
    refine lv_aload_n hx hb dX4_season_64 rfl (lv_at hl 2 rfl) ?_
    refine lv_iload hx hb dX4_season_65 (lv_at hl 0 rfl) ?_
    refine fa_iald (D := D) (j := 1) hx hb hK (hP 0 _ rfl) (by omega) (by omega) dX4_season_67 ?_
    refine lv_aload_n hx hb dX4_season_68 rfl (lv_at hl 2 rfl) ?_
    refine lv_iload_n hx hb dX4_season_69 rfl (lv_at hl 1 rfl) ?_
    refine fa_iald (D := D) (j := 3) hx hb hK (hP 0 _ rfl) (by omega) (by omega) dX4_season_70 ?_
    refine lv_icmp_lt (tgt := 77) hx hb dX4_season_71 (by decide) (fun h11 => ?_) (fun h11 => ?_)
    · refine lv_iinc (v := 0) (x := 1) (lv' := [(4, .int 0), (3, .int 3), (2, .ref q1), (0, .ref a), (1, .ref o)]) hx hb dX4_season_77 hl (k := 0) rfl rfl (by decide) rfl (fun ls hl => ?_)
      refine lv_goto (tgt := 59) hx hb dX4_season_80 (by decide) ?_
      refine lv_iload hx hb dX4_season_59 (lv_at hl 0 rfl) ?_
      refine lv_if_lt (tgt := 83) hx hb dX4_season_61 (by decide) (fun h => absurd h (by decide)) (fun _ => ?_)
      refine lv_aload_n hx hb dX4_season_64 rfl (lv_at hl 2 rfl) ?_
      refine lv_iload hx hb dX4_season_65 (lv_at hl 0 rfl) ?_
      refine fa_iald (D := D) (j := 0) hx hb hK (hP 0 _ rfl) (by omega) (by omega) dX4_season_67 ?_
      refine lv_aload_n hx hb dX4_season_68 rfl (lv_at hl 2 rfl) ?_
      refine lv_iload_n hx hb dX4_season_69 rfl (lv_at hl 1 rfl) ?_
      refine fa_iald (D := D) (j := 3) hx hb hK (hP 0 _ rfl) (by omega) (by omega) dX4_season_70 ?_
      refine lv_icmp_lt (tgt := 77) hx hb dX4_season_71 (by decide) (fun h13 => ?_) (fun h13 => ?_)
      · refine lv_iinc (v := (-1)) (x := 0) (lv' := [(4, .int (-1)), (3, .int 3), (2, .ref q1), (0, .ref a), (1, .ref o)]) hx hb dX4_season_77 hl (k := 0) rfl rfl (by decide) rfl (fun ls hl => ?_)
        refine lv_goto (tgt := 59) hx hb dX4_season_80 (by decide) ?_
        refine lv_iload hx hb dX4_season_59 (lv_at hl 0 rfl) ?_
        refine lv_if_lt (tgt := 83) hx hb dX4_season_61 (by decide) (fun _ => ?_) (fun h => absurd (by decide) h)
        refine lv_aload_n hx hb dX4_season_83 rfl (lv_at hl 4 rfl) ?_
        refine lv_iconst (v := 0) hx hb dX4_season_84 (by decide) ?_
        refine fa_iald (D := D) (j := 0) hx hb hK (EX.at hE ho) (by omega) (by omega) dX4_season_85 ?_
        refine lv_aload_n hx hb dX4_season_86 rfl (lv_at hl 4 rfl) ?_
        refine lv_iconst (v := 1) hx hb dX4_season_87 (by decide) ?_
        refine fa_iald (D := D) (j := 1) hx hb hK (EX.at hE ho) (by omega) (by omega) dX4_season_88 ?_
        refine lv_iadd hx hb dX4_season_89 ?_
        refine lv_aload_n hx hb dX4_season_90 rfl (lv_at hl 4 rfl) ?_
        refine lv_iconst (v := 2) hx hb dX4_season_91 (by decide) ?_
        refine fa_iald (D := D) (j := 2) hx hb hK (EX.at hE ho) (by omega) (by omega) dX4_season_92 ?_
        refine lv_iadd hx hb dX4_season_93 ?_
        refine lv_aload_n hx hb dX4_season_94 rfl (lv_at hl 4 rfl) ?_
        refine lv_iconst (v := 3) hx hb dX4_season_95 (by decide) ?_
        refine fa_iald (D := D) (j := 3) hx hb hK (EX.at hE ho) (by omega) (by omega) dX4_season_96 ?_
        refine lv_iadd hx hb dX4_season_97 ?_
        refine lv_if_ne (tgt := 105) hx hb dX4_season_98 (by decide) (fun h15 => ?_) (fun h15 => ?_)
        · refine lv_iload_n hx hb dX4_season_105 rfl (lv_at hl 1 rfl) ?_
          exact LQ_zret hx hb hr hlk dX4_season_106 (by omega) (by omega) (by unfold sSe sBs; rw [← hwt]; simp [h9, h11, h13, h15]; try rfl) hS (by rfl)
        · refine lv_iconst (v := (-1)) hx hb dX4_season_101 (by decide) ?_
          refine lv_goto (tgt := 106) hx hb dX4_season_102 (by decide) ?_
          exact LQ_zret hx hb hr hlk dX4_season_106 (by omega) (by omega) (by unfold sSe sBs; rw [← hwt]; simp [h9, h11, h13, h15]; try rfl) hS (by rfl)
      · refine lv_iload hx hb dX4_season_74 (lv_at hl 0 rfl) ?_
        refine lv_istore_n (lv' := [(3, .int 0), (4, .int 0), (2, .ref q1), (0, .ref a), (1, .ref o)]) hx hb dX4_season_76 rfl hl (by decide) rfl (fun ls hl => ?_)
        refine lv_iinc (v := (-1)) (x := 0) (lv' := [(4, .int (-1)), (3, .int 0), (2, .ref q1), (0, .ref a), (1, .ref o)]) hx hb dX4_season_77 hl (k := 1) rfl rfl (by decide) rfl (fun ls hl => ?_)
        refine lv_goto (tgt := 59) hx hb dX4_season_80 (by decide) ?_
        refine lv_iload hx hb dX4_season_59 (lv_at hl 0 rfl) ?_
        refine lv_if_lt (tgt := 83) hx hb dX4_season_61 (by decide) (fun _ => ?_) (fun h => absurd (by decide) h)
        refine lv_aload_n hx hb dX4_season_83 rfl (lv_at hl 4 rfl) ?_
        refine lv_iconst (v := 0) hx hb dX4_season_84 (by decide) ?_
        refine fa_iald (D := D) (j := 0) hx hb hK (EX.at hE ho) (by omega) (by omega) dX4_season_85 ?_
        refine lv_aload_n hx hb dX4_season_86 rfl (lv_at hl 4 rfl) ?_
        refine lv_iconst (v := 1) hx hb dX4_season_87 (by decide) ?_
        refine fa_iald (D := D) (j := 1) hx hb hK (EX.at hE ho) (by omega) (by omega) dX4_season_88 ?_
        refine lv_iadd hx hb dX4_season_89 ?_
        refine lv_aload_n hx hb dX4_season_90 rfl (lv_at hl 4 rfl) ?_
        refine lv_iconst (v := 2) hx hb dX4_season_91 (by decide) ?_
        refine fa_iald (D := D) (j := 2) hx hb hK (EX.at hE ho) (by omega) (by omega) dX4_season_92 ?_
        refine lv_iadd hx hb dX4_season_93 ?_
        refine lv_aload_n hx hb dX4_season_94 rfl (lv_at hl 4 rfl) ?_
        refine lv_iconst (v := 3) hx hb dX4_season_95 (by decide) ?_
        refine fa_iald (D := D) (j := 3) hx hb hK (EX.at hE ho) (by omega) (by omega) dX4_season_96 ?_
        refine lv_iadd hx hb dX4_season_97 ?_
        refine lv_if_ne (tgt := 105) hx hb dX4_season_98 (by decide) (fun h17 => ?_) (fun h17 => ?_)
        · refine lv_iload_n hx hb dX4_season_105 rfl (lv_at hl 1 rfl) ?_
          exact LQ_zret hx hb hr hlk dX4_season_106 (by omega) (by omega) (by unfold sSe sBs; rw [← hwt]; simp [h9, h11, h13, h17]; try rfl) hS (by rfl)
        · refine lv_iconst (v := (-1)) hx hb dX4_season_101 (by decide) ?_
          refine lv_goto (tgt := 106) hx hb dX4_season_102 (by decide) ?_
          exact LQ_zret hx hb hr hlk dX4_season_106 (by omega) (by omega) (by unfold sSe sBs; rw [← hwt]; simp [h9, h11, h13, h17]; try rfl) hS (by rfl)
    · refine lv_iload hx hb dX4_season_74 (lv_at hl 0 rfl) ?_
      refine lv_istore_n (lv' := [(3, .int 1), (4, .int 1), (2, .ref q1), (0, .ref a), (1, .ref o)]) hx hb dX4_season_76 rfl hl (by decide) rfl (fun ls hl => ?_)
      refine lv_iinc (v := 0) (x := 1) (lv' := [(4, .int 0), (3, .int 1), (2, .ref q1), (0, .ref a), (1, .ref o)]) hx hb dX4_season_77 hl (k := 1) rfl rfl (by decide) rfl (fun ls hl => ?_)
      refine lv_goto (tgt := 59) hx hb dX4_season_80 (by decide) ?_
      refine lv_iload hx hb dX4_season_59 (lv_at hl 0 rfl) ?_
      refine lv_if_lt (tgt := 83) hx hb dX4_season_61 (by decide) (fun h => absurd h (by decide)) (fun _ => ?_)
      refine lv_aload_n hx hb dX4_season_64 rfl (lv_at hl 2 rfl) ?_
      refine lv_iload hx hb dX4_season_65 (lv_at hl 0 rfl) ?_
      refine fa_iald (D := D) (j := 0) hx hb hK (hP 0 _ rfl) (by omega) (by omega) dX4_season_67 ?_
      refine lv_aload_n hx hb dX4_season_68 rfl (lv_at hl 2 rfl) ?_
      refine lv_iload_n hx hb dX4_season_69 rfl (lv_at hl 1 rfl) ?_
      refine fa_iald (D := D) (j := 1) hx hb hK (hP 0 _ rfl) (by omega) (by omega) dX4_season_70 ?_
      refine lv_icmp_lt (tgt := 77) hx hb dX4_season_71 (by decide) (fun h19 => ?_) (fun h19 => ?_)
      · refine lv_iinc (v := (-1)) (x := 0) (lv' := [(4, .int (-1)), (3, .int 1), (2, .ref q1), (0, .ref a), (1, .ref o)]) hx hb dX4_season_77 hl (k := 0) rfl rfl (by decide) rfl (fun ls hl => ?_)
        refine lv_goto (tgt := 59) hx hb dX4_season_80 (by decide) ?_
        refine lv_iload hx hb dX4_season_59 (lv_at hl 0 rfl) ?_
        refine lv_if_lt (tgt := 83) hx hb dX4_season_61 (by decide) (fun _ => ?_) (fun h => absurd (by decide) h)
        refine lv_aload_n hx hb dX4_season_83 rfl (lv_at hl 4 rfl) ?_
        refine lv_iconst (v := 0) hx hb dX4_season_84 (by decide) ?_
        refine fa_iald (D := D) (j := 0) hx hb hK (EX.at hE ho) (by omega) (by omega) dX4_season_85 ?_
        refine lv_aload_n hx hb dX4_season_86 rfl (lv_at hl 4 rfl) ?_
        refine lv_iconst (v := 1) hx hb dX4_season_87 (by decide) ?_
        refine fa_iald (D := D) (j := 1) hx hb hK (EX.at hE ho) (by omega) (by omega) dX4_season_88 ?_
        refine lv_iadd hx hb dX4_season_89 ?_
        refine lv_aload_n hx hb dX4_season_90 rfl (lv_at hl 4 rfl) ?_
        refine lv_iconst (v := 2) hx hb dX4_season_91 (by decide) ?_
        refine fa_iald (D := D) (j := 2) hx hb hK (EX.at hE ho) (by omega) (by omega) dX4_season_92 ?_
        refine lv_iadd hx hb dX4_season_93 ?_
        refine lv_aload_n hx hb dX4_season_94 rfl (lv_at hl 4 rfl) ?_
        refine lv_iconst (v := 3) hx hb dX4_season_95 (by decide) ?_
        refine fa_iald (D := D) (j := 3) hx hb hK (EX.at hE ho) (by omega) (by omega) dX4_season_96 ?_
        refine lv_iadd hx hb dX4_season_97 ?_
        refine lv_if_ne (tgt := 105) hx hb dX4_season_98 (by decide) (fun h21 => ?_) (fun h21 => ?_)
        · refine lv_iload_n hx hb dX4_season_105 rfl (lv_at hl 1 rfl) ?_
          exact LQ_zret hx hb hr hlk dX4_season_106 (by omega) (by omega) (by unfold sSe sBs; rw [← hwt]; simp [h9, h11, h19, h21]; try rfl) hS (by rfl)
        · refine lv_iconst (v := (-1)) hx hb dX4_season_101 (by decide) ?_
          refine lv_goto (tgt := 106) hx hb dX4_season_102 (by decide) ?_
          exact LQ_zret hx hb hr hlk dX4_season_106 (by omega) (by omega) (by unfold sSe sBs; rw [← hwt]; simp [h9, h11, h19, h21]; try rfl) hS (by rfl)
      · refine lv_iload hx hb dX4_season_74 (lv_at hl 0 rfl) ?_
        refine lv_istore_n (lv' := [(3, .int 0), (4, .int 0), (2, .ref q1), (0, .ref a), (1, .ref o)]) hx hb dX4_season_76 rfl hl (by decide) rfl (fun ls hl => ?_)
        refine lv_iinc (v := (-1)) (x := 0) (lv' := [(4, .int (-1)), (3, .int 0), (2, .ref q1), (0, .ref a), (1, .ref o)]) hx hb dX4_season_77 hl (k := 1) rfl rfl (by decide) rfl (fun ls hl => ?_)
        refine lv_goto (tgt := 59) hx hb dX4_season_80 (by decide) ?_
        refine lv_iload hx hb dX4_season_59 (lv_at hl 0 rfl) ?_
        refine lv_if_lt (tgt := 83) hx hb dX4_season_61 (by decide) (fun _ => ?_) (fun h => absurd (by decide) h)
        refine lv_aload_n hx hb dX4_season_83 rfl (lv_at hl 4 rfl) ?_
        refine lv_iconst (v := 0) hx hb dX4_season_84 (by decide) ?_
        refine fa_iald (D := D) (j := 0) hx hb hK (EX.at hE ho) (by omega) (by omega) dX4_season_85 ?_
        refine lv_aload_n hx hb dX4_season_86 rfl (lv_at hl 4 rfl) ?_
        refine lv_iconst (v := 1) hx hb dX4_season_87 (by decide) ?_
        refine fa_iald (D := D) (j := 1) hx hb hK (EX.at hE ho) (by omega) (by omega) dX4_season_88 ?_
        refine lv_iadd hx hb dX4_season_89 ?_
        refine lv_aload_n hx hb dX4_season_90 rfl (lv_at hl 4 rfl) ?_
        refine lv_iconst (v := 2) hx hb dX4_season_91 (by decide) ?_
        refine fa_iald (D := D) (j := 2) hx hb hK (EX.at hE ho) (by omega) (by omega) dX4_season_92 ?_
        refine lv_iadd hx hb dX4_season_93 ?_
        refine lv_aload_n hx hb dX4_season_94 rfl (lv_at hl 4 rfl) ?_
        refine lv_iconst (v := 3) hx hb dX4_season_95 (by decide) ?_
        refine fa_iald (D := D) (j := 3) hx hb hK (EX.at hE ho) (by omega) (by omega) dX4_season_96 ?_
        refine lv_iadd hx hb dX4_season_97 ?_
        refine lv_if_ne (tgt := 105) hx hb dX4_season_98 (by decide) (fun h23 => ?_) (fun h23 => ?_)
        · refine lv_iload_n hx hb dX4_season_105 rfl (lv_at hl 1 rfl) ?_
          exact LQ_zret hx hb hr hlk dX4_season_106 (by omega) (by omega) (by unfold sSe sBs; rw [← hwt]; simp [h9, h11, h19, h23]; try rfl) hS (by rfl)
        · refine lv_iconst (v := (-1)) hx hb dX4_season_101 (by decide) ?_
          refine lv_goto (tgt := 106) hx hb dX4_season_102 (by decide) ?_
          exact LQ_zret hx hb hr hlk dX4_season_106 (by omega) (by omega) (by unfold sSe sBs; rw [← hwt]; simp [h9, h11, h19, h23]; try rfl) hS (by rfl)
  · refine lv_iload hx hb dX4_season_74 (lv_at hl 0 rfl) ?_
    refine lv_istore_n (lv' := [(3, .int 2), (4, .int 2), (2, .ref q1), (0, .ref a), (1, .ref o)]) hx hb dX4_season_76 rfl hl (by decide) rfl (fun ls hl => ?_)
    refine lv_iinc (v := 1) (x := 2) (lv' := [(4, .int 1), (3, .int 2), (2, .ref q1), (0, .ref a), (1, .ref o)]) hx hb dX4_season_77 hl (k := 1) rfl rfl (by decide) rfl (fun ls hl => ?_)
    refine lv_goto (tgt := 59) hx hb dX4_season_80 (by decide) ?_
    refine lv_iload hx hb dX4_season_59 (lv_at hl 0 rfl) ?_
    refine lv_if_lt (tgt := 83) hx hb dX4_season_61 (by decide) (fun h => absurd h (by decide)) (fun _ => ?_)
    refine lv_aload_n hx hb dX4_season_64 rfl (lv_at hl 2 rfl) ?_
    refine lv_iload hx hb dX4_season_65 (lv_at hl 0 rfl) ?_
    refine fa_iald (D := D) (j := 1) hx hb hK (hP 0 _ rfl) (by omega) (by omega) dX4_season_67 ?_
    refine lv_aload_n hx hb dX4_season_68 rfl (lv_at hl 2 rfl) ?_
    refine lv_iload_n hx hb dX4_season_69 rfl (lv_at hl 1 rfl) ?_
    refine fa_iald (D := D) (j := 2) hx hb hK (hP 0 _ rfl) (by omega) (by omega) dX4_season_70 ?_
    refine lv_icmp_lt (tgt := 77) hx hb dX4_season_71 (by decide) (fun h25 => ?_) (fun h25 => ?_)
    · refine lv_iinc (v := 0) (x := 1) (lv' := [(4, .int 0), (3, .int 2), (2, .ref q1), (0, .ref a), (1, .ref o)]) hx hb dX4_season_77 hl (k := 0) rfl rfl (by decide) rfl (fun ls hl => ?_)
      refine lv_goto (tgt := 59) hx hb dX4_season_80 (by decide) ?_
      refine lv_iload hx hb dX4_season_59 (lv_at hl 0 rfl) ?_
      refine lv_if_lt (tgt := 83) hx hb dX4_season_61 (by decide) (fun h => absurd h (by decide)) (fun _ => ?_)
      refine lv_aload_n hx hb dX4_season_64 rfl (lv_at hl 2 rfl) ?_
      refine lv_iload hx hb dX4_season_65 (lv_at hl 0 rfl) ?_
      refine fa_iald (D := D) (j := 0) hx hb hK (hP 0 _ rfl) (by omega) (by omega) dX4_season_67 ?_
      refine lv_aload_n hx hb dX4_season_68 rfl (lv_at hl 2 rfl) ?_
      refine lv_iload_n hx hb dX4_season_69 rfl (lv_at hl 1 rfl) ?_
      refine fa_iald (D := D) (j := 2) hx hb hK (hP 0 _ rfl) (by omega) (by omega) dX4_season_70 ?_
      refine lv_icmp_lt (tgt := 77) hx hb dX4_season_71 (by decide) (fun h27 => ?_) (fun h27 => ?_)
      · refine lv_iinc (v := (-1)) (x := 0) (lv' := [(4, .int (-1)), (3, .int 2), (2, .ref q1), (0, .ref a), (1, .ref o)]) hx hb dX4_season_77 hl (k := 0) rfl rfl (by decide) rfl (fun ls hl => ?_)
        refine lv_goto (tgt := 59) hx hb dX4_season_80 (by decide) ?_
        refine lv_iload hx hb dX4_season_59 (lv_at hl 0 rfl) ?_
        refine lv_if_lt (tgt := 83) hx hb dX4_season_61 (by decide) (fun _ => ?_) (fun h => absurd (by decide) h)
        refine lv_aload_n hx hb dX4_season_83 rfl (lv_at hl 4 rfl) ?_
        refine lv_iconst (v := 0) hx hb dX4_season_84 (by decide) ?_
        refine fa_iald (D := D) (j := 0) hx hb hK (EX.at hE ho) (by omega) (by omega) dX4_season_85 ?_
        refine lv_aload_n hx hb dX4_season_86 rfl (lv_at hl 4 rfl) ?_
        refine lv_iconst (v := 1) hx hb dX4_season_87 (by decide) ?_
        refine fa_iald (D := D) (j := 1) hx hb hK (EX.at hE ho) (by omega) (by omega) dX4_season_88 ?_
        refine lv_iadd hx hb dX4_season_89 ?_
        refine lv_aload_n hx hb dX4_season_90 rfl (lv_at hl 4 rfl) ?_
        refine lv_iconst (v := 2) hx hb dX4_season_91 (by decide) ?_
        refine fa_iald (D := D) (j := 2) hx hb hK (EX.at hE ho) (by omega) (by omega) dX4_season_92 ?_
        refine lv_iadd hx hb dX4_season_93 ?_
        refine lv_aload_n hx hb dX4_season_94 rfl (lv_at hl 4 rfl) ?_
        refine lv_iconst (v := 3) hx hb dX4_season_95 (by decide) ?_
        refine fa_iald (D := D) (j := 3) hx hb hK (EX.at hE ho) (by omega) (by omega) dX4_season_96 ?_
        refine lv_iadd hx hb dX4_season_97 ?_
        refine lv_if_ne (tgt := 105) hx hb dX4_season_98 (by decide) (fun h29 => ?_) (fun h29 => ?_)
        · refine lv_iload_n hx hb dX4_season_105 rfl (lv_at hl 1 rfl) ?_
          exact LQ_zret hx hb hr hlk dX4_season_106 (by omega) (by omega) (by unfold sSe sBs; rw [← hwt]; simp [h9, h25, h27, h29]; try rfl) hS (by rfl)
        · refine lv_iconst (v := (-1)) hx hb dX4_season_101 (by decide) ?_
          refine lv_goto (tgt := 106) hx hb dX4_season_102 (by decide) ?_
          exact LQ_zret hx hb hr hlk dX4_season_106 (by omega) (by omega) (by unfold sSe sBs; rw [← hwt]; simp [h9, h25, h27, h29]; try rfl) hS (by rfl)
      · refine lv_iload hx hb dX4_season_74 (lv_at hl 0 rfl) ?_
        refine lv_istore_n (lv' := [(3, .int 0), (4, .int 0), (2, .ref q1), (0, .ref a), (1, .ref o)]) hx hb dX4_season_76 rfl hl (by decide) rfl (fun ls hl => ?_)
        refine lv_iinc (v := (-1)) (x := 0) (lv' := [(4, .int (-1)), (3, .int 0), (2, .ref q1), (0, .ref a), (1, .ref o)]) hx hb dX4_season_77 hl (k := 1) rfl rfl (by decide) rfl (fun ls hl => ?_)
        refine lv_goto (tgt := 59) hx hb dX4_season_80 (by decide) ?_
        refine lv_iload hx hb dX4_season_59 (lv_at hl 0 rfl) ?_
        refine lv_if_lt (tgt := 83) hx hb dX4_season_61 (by decide) (fun _ => ?_) (fun h => absurd (by decide) h)
        refine lv_aload_n hx hb dX4_season_83 rfl (lv_at hl 4 rfl) ?_
        refine lv_iconst (v := 0) hx hb dX4_season_84 (by decide) ?_
        refine fa_iald (D := D) (j := 0) hx hb hK (EX.at hE ho) (by omega) (by omega) dX4_season_85 ?_
        refine lv_aload_n hx hb dX4_season_86 rfl (lv_at hl 4 rfl) ?_
        refine lv_iconst (v := 1) hx hb dX4_season_87 (by decide) ?_
        refine fa_iald (D := D) (j := 1) hx hb hK (EX.at hE ho) (by omega) (by omega) dX4_season_88 ?_
        refine lv_iadd hx hb dX4_season_89 ?_
        refine lv_aload_n hx hb dX4_season_90 rfl (lv_at hl 4 rfl) ?_
        refine lv_iconst (v := 2) hx hb dX4_season_91 (by decide) ?_
        refine fa_iald (D := D) (j := 2) hx hb hK (EX.at hE ho) (by omega) (by omega) dX4_season_92 ?_
        refine lv_iadd hx hb dX4_season_93 ?_
        refine lv_aload_n hx hb dX4_season_94 rfl (lv_at hl 4 rfl) ?_
        refine lv_iconst (v := 3) hx hb dX4_season_95 (by decide) ?_
        refine fa_iald (D := D) (j := 3) hx hb hK (EX.at hE ho) (by omega) (by omega) dX4_season_96 ?_
        refine lv_iadd hx hb dX4_season_97 ?_
        refine lv_if_ne (tgt := 105) hx hb dX4_season_98 (by decide) (fun h31 => ?_) (fun h31 => ?_)
        · refine lv_iload_n hx hb dX4_season_105 rfl (lv_at hl 1 rfl) ?_
          exact LQ_zret hx hb hr hlk dX4_season_106 (by omega) (by omega) (by unfold sSe sBs; rw [← hwt]; simp [h9, h25, h27, h31]; try rfl) hS (by rfl)
        · refine lv_iconst (v := (-1)) hx hb dX4_season_101 (by decide) ?_
          refine lv_goto (tgt := 106) hx hb dX4_season_102 (by decide) ?_
          exact LQ_zret hx hb hr hlk dX4_season_106 (by omega) (by omega) (by unfold sSe sBs; rw [← hwt]; simp [h9, h25, h27, h31]; try rfl) hS (by rfl)
    · refine lv_iload hx hb dX4_season_74 (lv_at hl 0 rfl) ?_
      refine lv_istore_n (lv' := [(3, .int 1), (4, .int 1), (2, .ref q1), (0, .ref a), (1, .ref o)]) hx hb dX4_season_76 rfl hl (by decide) rfl (fun ls hl => ?_)
      refine lv_iinc (v := 0) (x := 1) (lv' := [(4, .int 0), (3, .int 1), (2, .ref q1), (0, .ref a), (1, .ref o)]) hx hb dX4_season_77 hl (k := 1) rfl rfl (by decide) rfl (fun ls hl => ?_)
      refine lv_goto (tgt := 59) hx hb dX4_season_80 (by decide) ?_
      refine lv_iload hx hb dX4_season_59 (lv_at hl 0 rfl) ?_
      refine lv_if_lt (tgt := 83) hx hb dX4_season_61 (by decide) (fun h => absurd h (by decide)) (fun _ => ?_)
      refine lv_aload_n hx hb dX4_season_64 rfl (lv_at hl 2 rfl) ?_
      refine lv_iload hx hb dX4_season_65 (lv_at hl 0 rfl) ?_
      refine fa_iald (D := D) (j := 0) hx hb hK (hP 0 _ rfl) (by omega) (by omega) dX4_season_67 ?_
      refine lv_aload_n hx hb dX4_season_68 rfl (lv_at hl 2 rfl) ?_
      refine lv_iload_n hx hb dX4_season_69 rfl (lv_at hl 1 rfl) ?_
      refine fa_iald (D := D) (j := 1) hx hb hK (hP 0 _ rfl) (by omega) (by omega) dX4_season_70 ?_
      refine lv_icmp_lt (tgt := 77) hx hb dX4_season_71 (by decide) (fun h33 => ?_) (fun h33 => ?_)
      · refine lv_iinc (v := (-1)) (x := 0) (lv' := [(4, .int (-1)), (3, .int 1), (2, .ref q1), (0, .ref a), (1, .ref o)]) hx hb dX4_season_77 hl (k := 0) rfl rfl (by decide) rfl (fun ls hl => ?_)
        refine lv_goto (tgt := 59) hx hb dX4_season_80 (by decide) ?_
        refine lv_iload hx hb dX4_season_59 (lv_at hl 0 rfl) ?_
        refine lv_if_lt (tgt := 83) hx hb dX4_season_61 (by decide) (fun _ => ?_) (fun h => absurd (by decide) h)
        refine lv_aload_n hx hb dX4_season_83 rfl (lv_at hl 4 rfl) ?_
        refine lv_iconst (v := 0) hx hb dX4_season_84 (by decide) ?_
        refine fa_iald (D := D) (j := 0) hx hb hK (EX.at hE ho) (by omega) (by omega) dX4_season_85 ?_
        refine lv_aload_n hx hb dX4_season_86 rfl (lv_at hl 4 rfl) ?_
        refine lv_iconst (v := 1) hx hb dX4_season_87 (by decide) ?_
        refine fa_iald (D := D) (j := 1) hx hb hK (EX.at hE ho) (by omega) (by omega) dX4_season_88 ?_
        refine lv_iadd hx hb dX4_season_89 ?_
        refine lv_aload_n hx hb dX4_season_90 rfl (lv_at hl 4 rfl) ?_
        refine lv_iconst (v := 2) hx hb dX4_season_91 (by decide) ?_
        refine fa_iald (D := D) (j := 2) hx hb hK (EX.at hE ho) (by omega) (by omega) dX4_season_92 ?_
        refine lv_iadd hx hb dX4_season_93 ?_
        refine lv_aload_n hx hb dX4_season_94 rfl (lv_at hl 4 rfl) ?_
        refine lv_iconst (v := 3) hx hb dX4_season_95 (by decide) ?_
        refine fa_iald (D := D) (j := 3) hx hb hK (EX.at hE ho) (by omega) (by omega) dX4_season_96 ?_
        refine lv_iadd hx hb dX4_season_97 ?_
        refine lv_if_ne (tgt := 105) hx hb dX4_season_98 (by decide) (fun h35 => ?_) (fun h35 => ?_)
        · refine lv_iload_n hx hb dX4_season_105 rfl (lv_at hl 1 rfl) ?_
          exact LQ_zret hx hb hr hlk dX4_season_106 (by omega) (by omega) (by unfold sSe sBs; rw [← hwt]; simp [h9, h25, h33, h35]; try rfl) hS (by rfl)
        · refine lv_iconst (v := (-1)) hx hb dX4_season_101 (by decide) ?_
          refine lv_goto (tgt := 106) hx hb dX4_season_102 (by decide) ?_
          exact LQ_zret hx hb hr hlk dX4_season_106 (by omega) (by omega) (by unfold sSe sBs; rw [← hwt]; simp [h9, h25, h33, h35]; try rfl) hS (by rfl)
      · refine lv_iload hx hb dX4_season_74 (lv_at hl 0 rfl) ?_
        refine lv_istore_n (lv' := [(3, .int 0), (4, .int 0), (2, .ref q1), (0, .ref a), (1, .ref o)]) hx hb dX4_season_76 rfl hl (by decide) rfl (fun ls hl => ?_)
        refine lv_iinc (v := (-1)) (x := 0) (lv' := [(4, .int (-1)), (3, .int 0), (2, .ref q1), (0, .ref a), (1, .ref o)]) hx hb dX4_season_77 hl (k := 1) rfl rfl (by decide) rfl (fun ls hl => ?_)
        refine lv_goto (tgt := 59) hx hb dX4_season_80 (by decide) ?_
        refine lv_iload hx hb dX4_season_59 (lv_at hl 0 rfl) ?_
        refine lv_if_lt (tgt := 83) hx hb dX4_season_61 (by decide) (fun _ => ?_) (fun h => absurd (by decide) h)
        refine lv_aload_n hx hb dX4_season_83 rfl (lv_at hl 4 rfl) ?_
        refine lv_iconst (v := 0) hx hb dX4_season_84 (by decide) ?_
        refine fa_iald (D := D) (j := 0) hx hb hK (EX.at hE ho) (by omega) (by omega) dX4_season_85 ?_
        refine lv_aload_n hx hb dX4_season_86 rfl (lv_at hl 4 rfl) ?_
        refine lv_iconst (v := 1) hx hb dX4_season_87 (by decide) ?_
        refine fa_iald (D := D) (j := 1) hx hb hK (EX.at hE ho) (by omega) (by omega) dX4_season_88 ?_
        refine lv_iadd hx hb dX4_season_89 ?_
        refine lv_aload_n hx hb dX4_season_90 rfl (lv_at hl 4 rfl) ?_
        refine lv_iconst (v := 2) hx hb dX4_season_91 (by decide) ?_
        refine fa_iald (D := D) (j := 2) hx hb hK (EX.at hE ho) (by omega) (by omega) dX4_season_92 ?_
        refine lv_iadd hx hb dX4_season_93 ?_
        refine lv_aload_n hx hb dX4_season_94 rfl (lv_at hl 4 rfl) ?_
        refine lv_iconst (v := 3) hx hb dX4_season_95 (by decide) ?_
        refine fa_iald (D := D) (j := 3) hx hb hK (EX.at hE ho) (by omega) (by omega) dX4_season_96 ?_
        refine lv_iadd hx hb dX4_season_97 ?_
        refine lv_if_ne (tgt := 105) hx hb dX4_season_98 (by decide) (fun h37 => ?_) (fun h37 => ?_)
        · refine lv_iload_n hx hb dX4_season_105 rfl (lv_at hl 1 rfl) ?_
          exact LQ_zret hx hb hr hlk dX4_season_106 (by omega) (by omega) (by unfold sSe sBs; rw [← hwt]; simp [h9, h25, h33, h37]; try rfl) hS (by rfl)
        · refine lv_iconst (v := (-1)) hx hb dX4_season_101 (by decide) ?_
          refine lv_goto (tgt := 106) hx hb dX4_season_102 (by decide) ?_
          exact LQ_zret hx hb hr hlk dX4_season_106 (by omega) (by omega) (by unfold sSe sBs; rw [← hwt]; simp [h9, h25, h33, h37]; try rfl) hS (by rfl)
