theorem sub4 {L i : Nat} (hL : L ≤ 2048) (hi : i < 2 ^ 31) (h : ¬ nI L - 4 < nI i) : i + 4 ≤ L := by
  by_cases q : 4 ≤ L
  · obtain ⟨M, rfl⟩ : ∃ M, L = M + 4 := ⟨L - 4, by omega⟩
    have e : nI (M + 4) - 4 = nI M := by
      rw [← nI_add]
      show nI M + 4 - 4 = nI M
      generalize nI M = z
      grind
    rw [e] at h
    have w : ¬ M < i := fun w => h ((nI_ltI (by omega) hi).mpr w)
    omega
  · have z : nI L - 4 < 0 := by
      rcases (show L = 0 ∨ L = 1 ∨ L = 2 ∨ L = 3 by omega) with rfl | rfl | rfl | rfl <;> decide
    exact absurd (fa_trans z (nI_pos' hi)) h
set_option maxHeartbeats 4000000 in
set_option maxRecDepth 100000 in
theorem law_loop {p : Program} {l : Launch} {e : Env} {s : State} {m : MethodId} {below : List Frame} {meth : Method} {c : Code} {D : va_G} {cA cL : ClassId} {b L : Nat} {xs : Nat → Int32} {ad : Nat → Nat} (E : LE p l s m meth c D cA cL b L xs) : ∀ (f i k n : Nat), L < i + 4 * f → i ≤ 2048 → k + 140 * f + 140 ≤ 601024 → n + 1900 * f + 1900 ≤ 7293034 → LH p l e s m below meth c D cA cL b ad 23 i k n := by
  have E0 := E
  obtain ⟨C0, hK, hX0, hL0, hNT, hL⟩ := E
  obtain ⟨hx, hb, hr, hml, hown, hts1, hSX, hbl, hlocks, hgv⟩ := C0
  have hb : c.code = cL_law := hb
  have hts : ∀ w ∈ wsL_law, w.before #[Value.ref b] s = true := fun w h => hts1 w (wsL_law_in w h)
  have hown : s.vm.findClass RL = some m.cls := hown
  have hA : ∀ q : Nat, s.heap.size ≤ q → lA s q := fun _ h => h
  have hbA : ¬ lA s b := Nat.not_le.mpr hbl
  intro f
  induction f with
  | zero =>
    intro i k n hf hi hk hn
    intro N al be to od ph mn bu fi la tb tf tl th fr tt ov H locs ls I hP hD hS hl
    refine lv_iload hx hb dL_law_23 (lv_at hl 0 rfl) ?_
    refine lv_aload_n hx hb dL_law_25 rfl (lv_at hl 4 rfl) ?_
    refine va_slen hx hb hSX hbl hbA hS dL_law_26 ?_
    refine lv_iconst (v := 4) hx hb dL_law_27 (by decide) ?_
    refine lv_isub hx hb dL_law_28 ?_
    refine lv_icmp_gt (tgt := 1117) hx hb dL_law_29 (by decide) (fun _ => ?_) (fun hc => ?_)
    · refine lv_iconst (v := 1) hx hb dL_law_1117 (by decide) ?_
      refine va_forget (fun q hq => hS.2.2 q hq) ?_
      refine W.widen (k := 601024) (n := 7293034) (by omega) (by omega) ?_
      refine W.base ?_
      exact lw_ret (d0 := s.drawn) (Drawn.sameBut.refl _ _) hx hb hr hlocks dL_law_1118
    have h4 : i + 4 ≤ L := sub4 hL (by omega) hc
    exact absurd h4 (by omega)
  | succ f ih =>
    intro i k n hf hi hk hn
    intro N al be to od ph mn bu fi la tb tf tl th fr tt ov H locs ls I hP hD hS hl
    refine lv_iload hx hb dL_law_23 (lv_at hl 0 rfl) ?_
    refine lv_aload_n hx hb dL_law_25 rfl (lv_at hl 4 rfl) ?_
    refine va_slen hx hb hSX hbl hbA hS dL_law_26 ?_
    refine lv_iconst (v := 4) hx hb dL_law_27 (by decide) ?_
    refine lv_isub hx hb dL_law_28 ?_
    refine lv_icmp_gt (tgt := 1117) hx hb dL_law_29 (by decide) (fun _ => ?_) (fun hc => ?_)
    · refine lv_iconst (v := 1) hx hb dL_law_1117 (by decide) ?_
      refine va_forget (fun q hq => hS.2.2 q hq) ?_
      refine W.widen (k := 601024) (n := 7293034) (by omega) (by omega) ?_
      refine W.base ?_
      exact lw_ret (d0 := s.drawn) (Drawn.sameBut.refl _ _) hx hb hr hlocks dL_law_1118
    have h4 : i + 4 ≤ L := sub4 hL (by omega) hc
    have K : LH p l e s m below meth c D cA cL b ad 1111 i (k + 140) (n + 1900) := by
      intro N al be to od ph mn bu fi la tb tf tl th fr tt ov H locs ls I hP hD hS hl
      refine lv_iinc (v := nI (i + 4)) (x := nI i) (lv' := [(4, .int (nI (i + 4))), (3, .ref (ad 0)), (2, .ref (ad 16)), (1, .ref (ad 1)), (0, .ref b)]) hx hb dL_law_1111 hl (k := 0) rfl (by rw [show Int32.ofInt 4 = nI 4 from rfl, nI_add]) (by decide) rfl (fun ls hl => ?_)
      refine lv_goto (tgt := 23) hx hb dL_law_1114 (by decide) ?_
      exact ih (i + 4) (k + 140) (n + 1900) (by omega) (by omega) (by omega) (by omega) N al be to od ph mn bu fi la tb tf tl th fr tt ov H locs ls I hP hD hS hl
    refine lv_aload_n hx hb dL_law_32 rfl (lv_at hl 4 rfl) ?_
    refine lv_iload hx hb dL_law_33 (lv_at hl 0 rfl) ?_
    refine va_sld hx hb hSX hbl hbA hS (vp_in_nI (n := i) (by omega) (by omega)) dL_law_35 ?_
    refine lv_bipush (v := 31) hx hb dL_law_36 (by decide) ?_
    refine lv_iand hx hb dL_law_38 ?_
    obtain ⟨w, hw, ew⟩ := pk_andE (xs (nI i).toNatClampNeg) (m := 31) 5 (by decide)
    rw [ew]
    by_cases h17 : w < 17
    · rcases (show w = 0 ∨ w = 1 ∨ w = 2 ∨ w = 3 ∨ w = 4 ∨ w = 5 ∨ w = 6 ∨ w = 7 ∨ w = 8 ∨ w = 9 ∨ w = 10 ∨ w = 11 ∨ w = 12 ∨ w = 13 ∨ w = 14 ∨ w = 15 ∨ w = 16 by omega) with rfl | rfl | rfl | rfl | rfl | rfl | rfl | rfl | rfl | rfl | rfl | rfl | rfl | rfl | rfl | rfl | rfl
      · refine lv_tableIn (tgt := 120) hx hb dL_law_39 (by decide) (by decide) rfl (by decide) ?_
        exact law_c_find E0 h4 (by omega) (by omega) K N al be to od ph mn bu fi la tb tf tl th fr tt ov H locs ls I hP hD hS hl
      · refine lv_tableIn (tgt := 164) hx hb dL_law_39 (by decide) (by decide) rfl (by decide) ?_
        exact law_c_above E0 h4 (by omega) (by omega) K N al be to od ph mn bu fi la tb tf tl th fr tt ov H locs ls I hP hD hS hl
      · refine lv_tableIn (tgt := 232) hx hb dL_law_39 (by decide) (by decide) rfl (by decide) ?_
        exact law_c_same E0 h4 (by omega) (by omega) K N al be to od ph mn bu fi la tb tf tl th fr tt ov H locs ls I hP hD hS hl
      · refine lv_tableIn (tgt := 300) hx hb dL_law_39 (by decide) (by decide) rfl (by decide) ?_
        exact law_c_sift E0 h4 (by omega) (by omega) K N al be to od ph mn bu fi la tb tf tl th fr tt ov H locs ls I hP hD hS hl
      · refine lv_tableIn (tgt := 380) hx hb dL_law_39 (by decide) (by decide) rfl (by decide) ?_
        exact law_c_hearth E0 h4 (by omega) (by omega) K N al be to od ph mn bu fi la tb tf tl th fr tt ov H locs ls I hP hD hS hl
      · refine lv_tableIn (tgt := 460) hx hb dL_law_39 (by decide) (by decide) rfl (by decide) ?_
        exact law_c_clear E0 h4 (by omega) (by omega) K N al be to od ph mn bu fi la tb tf tl th fr tt ov H locs ls I hP hD hS hl
      · refine lv_tableIn (tgt := 516) hx hb dL_law_39 (by decide) (by decide) rfl (by decide) ?_
        exact law_c_later E0 h4 (by omega) (by omega) K N al be to od ph mn bu fi la tb tf tl th fr tt ov H locs ls I hP hD hS hl
      · refine lv_tableIn (tgt := 591) hx hb dL_law_39 (by decide) (by decide) rfl (by decide) ?_
        exact law_c_told E0 h4 (by omega) (by omega) K N al be to od ph mn bu fi la tb tf tl th fr tt ov H locs ls I hP hD hS hl
      · refine lv_tableIn (tgt := 659) hx hb dL_law_39 (by decide) (by decide) rfl (by decide) ?_
        exact law_c_finds E0 h4 (by omega) (by omega) K N al be to od ph mn bu fi la tb tf tl th fr tt ov H locs ls I hP hD hS hl
      · refine lv_tableIn (tgt := 727) hx hb dL_law_39 (by decide) (by decide) rfl (by decide) ?_
        exact law_c_order E0 h4 (by omega) (by omega) K N al be to od ph mn bu fi la tb tf tl th fr tt ov H locs ls I hP hD hS hl
      · refine lv_tableIn (tgt := 783) hx hb dL_law_39 (by decide) (by decide) rfl (by decide) ?_
        exact law_c_between E0 h4 (by omega) (by omega) K N al be to od ph mn bu fi la tb tf tl th fr tt ov H locs ls I hP hD hS hl
      · refine lv_tableIn (tgt := 851) hx hb dL_law_39 (by decide) (by decide) rfl (by decide) ?_
        exact law_c_count E0 h4 (by omega) (by omega) K N al be to od ph mn bu fi la tb tf tl th fr tt ov H locs ls I hP hD hS hl
      · refine lv_tableIn (tgt := 907) hx hb dL_law_39 (by decide) (by decide) rfl (by decide) ?_
        exact law_c_blame E0 h4 (by omega) (by omega) K N al be to od ph mn bu fi la tb tf tl th fr tt ov H locs ls I hP hD hS hl
      · refine lv_tableIn (tgt := 920) hx hb dL_law_39 (by decide) (by decide) rfl (by decide) ?_
        exact law_c_narrows E0 h4 (by omega) (by omega) K N al be to od ph mn bu fi la tb tf tl th fr tt ov H locs ls I hP hD hS hl
      · refine lv_tableIn (tgt := 988) hx hb dL_law_39 (by decide) (by decide) rfl (by decide) ?_
        exact law_c_tells E0 h4 (by omega) (by omega) K N al be to od ph mn bu fi la tb tf tl th fr tt ov H locs ls I hP hD hS hl
      · refine lv_tableIn (tgt := 1056) hx hb dL_law_39 (by decide) (by decide) rfl (by decide) ?_
        exact law_c_mean E0 h4 (by omega) (by omega) K N al be to od ph mn bu fi la tb tf tl th fr tt ov H locs ls I hP hD hS hl
      · refine lv_tableIn (tgt := 1097) hx hb dL_law_39 (by decide) (by decide) rfl (by decide) ?_
        exact law_c_digest E0 h4 (by omega) (by omega) K N al be to od ph mn bu fi la tb tf tl th fr tt ov H locs ls I hP hD hS hl
    · refine lv_tableOut (tgt := 1111) hx hb dL_law_39 (Or.inr (by rw [nI_toInt (by omega)]; omega)) (by decide) ?_
      exact W.widen (by omega) (by omega) (K N al be to od ph mn bu fi la tb tf tl th fr tt ov H locs ls I hP hD hS hl)
