set_option maxHeartbeats 4000000 in
set_option maxRecDepth 100000 in
theorem c_X4_reckon (l : Launch) {D : va_G} {cA : ClassId} {H0 : Heap} {a N ab sm fi he mS mA : Nat} {v5 v6 : Value} {rab rsm sx sy ax ay : Nat → Nat} {al be to : Nat → Int32} (hN : N ≤ 12) (hNpos : 0 < N) (hI : RI N al be to) (hs : RS N al mS sx sy) (hl2 : RL2 N al be mA ax ay) (hmS : mS ≤ 200) (hmA : mA ≤ 200) (hA0 : AT D a (.inr (4, [.int (nI N), .ref ab, .ref sm, .ref fi, .ref he, v5, v6])) H0) (hab : GI D cA H0 ab mA rab 2 (paM ax ay)) (hsm : GI D cA H0 sm mS rsm 2 (paM sx sy)) (hnab : ab ≠ a) (hnsm : sm ≠ a) (hnrab : ∀ i, i < mA → rab i ≠ a) (hnrsm : ∀ i, i < mS → rsm i ≠ a) : LQ l yX4_reckon wsX4_reckon 0 0 26 312 [.ref a] D cA H0 (fun q => q = a ∨ H0.size ≤ q) (rkP D H0 a N ab sm fi he al be) := by
  refine LQ_of (cc := cX4_reckon) (maxL := 7) (ret := (some (.object "CairnShellsLaw$Sim"))) (by decide) rfl (Nat.le_of_ble_eq_true rfl) ?_
  intro p e s m below meth c ls hx hb hml hr hown hts hlk hH hK hl
  have hown : s.vm.findClass RX4 = some m.cls := hown
  have hl : lv_has ls 7 [(0, .ref a)] := hl
  have hinX4 : ∀ w ∈ wsX40, w ∈ wsX4_reckon := fun w h9 => List.mem_cons_of_mem _ (List.mem_append_right _ h9)
  have hS : va_S (fun q => q = a ∨ H0.size ≤ q) H0 H0 [] := va_S.rf
  have hE : EX H0 H0 := KP.rf
  have hP : va_P D vwCl [] H0 := fun k q h => by simp at h
  have hD : va_D (fun q => q = a ∨ H0.size ≤ q) [] := ⟨fun i j p q h => by simp at h, fun k q h => by simp at h⟩
  have haz := hA0.lt
  have hz9 : H0.size ≤ H0.size := Nat.le_refl _
  have hNN : N * N ≤ 144 := Nat.mul_le_mul hN hN
  refine lv_aload_n hx hb dX4_reckon_0 rfl (lv_at hl 0 rfl) ?_
  refine lv_aload_n hx hb dX4_reckon_1 rfl (lv_at hl 0 rfl) ?_
  refine fa_get (D := D) (ci := 4) (v := .int (nI N)) (C := RX4) (T := TX4) (N := 7) hx hb hts hinX4 hown hK hA0 rfl 0 (by decide) (hts (.fieldLink RX4 25 "CairnShellsLaw$Sim" "n" "I") (by decide +kernel)) (fun _ h9 => h9) rfl dX4_reckon_2 ?_
  refine lv_aload_n hx hb dX4_reckon_5 rfl (lv_at hl 0 rfl) ?_
  refine fa_get (D := D) (ci := 4) (v := .int (nI N)) (C := RX4) (T := TX4) (N := 7) hx hb hts hinX4 hown hK hA0 rfl 0 (by decide) (hts (.fieldLink RX4 25 "CairnShellsLaw$Sim" "n" "I") (by decide +kernel)) (fun _ h9 => h9) rfl dX4_reckon_6 ?_
  refine fa_mna (D := D) (ty := .boolean) (cO := D.1 12) (cR := D.1 10) (N' := N) (K' := N) hx hb hown (hts (.classLink RX4 29 "[[Z") (by decide +kernel)) (hts (.arrayClass .boolean) (by decide +kernel)) hK.2.2.2.2.2.2.2.2 (hK.all.2 3 _ rfl).2 (hK.all.2 1 _ rfl).2 rfl (by decide) rfl hS (by omega) (by omega) (by show _ ≤ 26; omega) (by show _ ≤ 312; omega) dX4_reckon_9 (fun o1 r1 H1 ho1 hr1 hir1 hnr1 hlo1 hlr1 hE9 hS => ?_)
  have hA0 := EX.at hE9 hA0
  have hzo1 : H0.size ≤ o1 := Nat.le_trans hz9 hlo1
  have hzr1 : ∀ i, H0.size ≤ r1 i := fun i => Nat.le_trans hz9 (hlr1 i)
  have hz9 := Nat.le_trans hz9 hE9.1
  refine fa_put (D := D) (ci := 4) (v := .ref o1) (ty := .array (.array .boolean)) (C := RX4) (T := TX4) (N := 7) hx hb hts hinX4 tyX4 tyX4_ok nmX4 hown hK hA0 hS (Or.inl rfl) rfl 5 (by decide) (hts (.fieldLink RX4 31 "CairnShellsLaw$Sim" "same" "[[Z") (by decide +kernel)) (fun _ h9 => h9) rfl (by decide +kernel) rfl rfl (Nat.le_of_ble_eq_true rfl) dX4_reckon_13 (fun H2 locs hA0 ho9 hS => ?_)
  have hA0 : AT D a (.inr (4, [.int (nI N), .ref ab, .ref sm, .ref fi, .ref he, .ref o1, v6])) H2 := hA0
  have ho1 := ho9.at ho1 (fun q => by omega)
  have hr1 : ∀ i, i < N → AT D (r1 i) (.inl (D.1 10, N, .inl (fun _ => 0))) H2 := fun i hi => ho9.at (hr1 i hi) (fun q => by have := hzr1 i; omega)
  have hz9 := Nat.le_trans hz9 (Nat.le_of_eq ho9.1.symm)
  have ho1z := ho1.lt
  have hr1z : ∀ i, i < N → r1 i < H2.size := fun i hi => (hr1 i hi).lt
  refine lv_aload_n hx hb dX4_reckon_16 rfl (lv_at hl 0 rfl) ?_
  refine lv_aload_n hx hb dX4_reckon_17 rfl (lv_at hl 0 rfl) ?_
  refine fa_get (D := D) (ci := 4) (v := .int (nI N)) (C := RX4) (T := TX4) (N := 7) hx hb hts hinX4 hown hK hA0 rfl 0 (by decide) (hts (.fieldLink RX4 25 "CairnShellsLaw$Sim" "n" "I") (by decide +kernel)) (fun _ h9 => h9) rfl dX4_reckon_18 ?_
  refine lv_aload_n hx hb dX4_reckon_21 rfl (lv_at hl 0 rfl) ?_
  refine fa_get (D := D) (ci := 4) (v := .int (nI N)) (C := RX4) (T := TX4) (N := 7) hx hb hts hinX4 hown hK hA0 rfl 0 (by decide) (hts (.fieldLink RX4 25 "CairnShellsLaw$Sim" "n" "I") (by decide +kernel)) (fun _ h9 => h9) rfl dX4_reckon_22 ?_
  refine fa_mna (D := D) (ty := .boolean) (cO := D.1 12) (cR := D.1 10) (N' := N) (K' := N) hx hb hown (hts (.classLink RX4 29 "[[Z") (by decide +kernel)) (hts (.arrayClass .boolean) (by decide +kernel)) hK.2.2.2.2.2.2.2.2 (hK.all.2 3 _ rfl).2 (hK.all.2 1 _ rfl).2 rfl (by decide) rfl hS (by omega) (by omega) (by show _ ≤ 26; omega) (by show _ ≤ 312; omega) dX4_reckon_25 (fun o2 r2 H3 ho2 hr2 hir2 hnr2 hlo2 hlr2 hE9 hS => ?_)
  have hA0 := EX.at hE9 hA0
  have hzo2 : H0.size ≤ o2 := Nat.le_trans hz9 hlo2
  have hzr2 : ∀ i, H0.size ≤ r2 i := fun i => Nat.le_trans hz9 (hlr2 i)
  have ho1 := EX.at hE9 ho1
  have hr1 : ∀ i, i < N → AT D (r1 i) (.inl (D.1 10, N, .inl (fun _ => 0))) H3 := fun i hi => EX.at hE9 (hr1 i hi)
  have hx1 : ∀ i, r2 i ≠ o1 := fun i q => by have h1 := hlr2 i; have h2 := ho1z; omega
  have hx2 : o2 ≠ o1 := fun q => by have h1 := hlo2; have h2 := ho1z; omega
  have hx3 : ∀ i, i < N → r1 i ≠ o2 := fun i hi q => by have h1 := hlo2; have h2 := hr1z i hi; omega
  have hx4 : ∀ i j, i < N → r1 i ≠ r2 j := fun i j hi q => by have h1 := hlr2 j; have h2 := hr1z i hi; omega
  have hz9 := Nat.le_trans hz9 hE9.1
  refine fa_put (D := D) (ci := 4) (v := .ref o2) (ty := .array (.array .boolean)) (C := RX4) (T := TX4) (N := 7) hx hb hts hinX4 tyX4 tyX4_ok nmX4 hown hK hA0 hS (Or.inl rfl) rfl 6 (by decide) (hts (.fieldLink RX4 34 "CairnShellsLaw$Sim" "later" "[[Z") (by decide +kernel)) (fun _ h9 => h9) rfl (by decide +kernel) rfl rfl (Nat.le_of_ble_eq_true rfl) dX4_reckon_29 (fun H4 locs hA0 ho9 hS => ?_)
  have hA0 : AT D a (.inr (4, [.int (nI N), .ref ab, .ref sm, .ref fi, .ref he, .ref o1, .ref o2])) H4 := hA0
  have ho1 := ho9.at ho1 (fun q => by omega)
  have hr1 : ∀ i, i < N → AT D (r1 i) (.inl (D.1 10, N, .inl (fun _ => 0))) H4 := fun i hi => ho9.at (hr1 i hi) (fun q => by have := hzr1 i; omega)
  have ho2 := ho9.at ho2 (fun q => by omega)
  have hr2 : ∀ i, i < N → AT D (r2 i) (.inl (D.1 10, N, .inl (fun _ => 0))) H4 := fun i hi => ho9.at (hr2 i hi) (fun q => by have := hzr2 i; omega)
  have hz9 := Nat.le_trans hz9 (Nat.le_of_eq ho9.1.symm)
  have hd : RKD H0.size a N o1 r1 o2 r2 := ⟨haz, hzo1, hzo2, fun i _ => hzr1 i, fun i _ => hzr2 i, fun i j _ _ => hir1 i j, fun i j _ _ => hir2 i j, fun i _ => hnr1 i, hx3, fun i _ => hx1 i, fun i _ => hnr2 i, fun i j hi _ => hx4 i j hi⟩
  have hR : RKS D H4 a ab sm fi he N o1 r1 (fun _ _ => false) o2 r2 (fun _ _ => false) := ⟨hA0, ⟨ho1, hr1⟩, ⟨ho2, hr2⟩⟩
  refine W.widen (k := 26) (n := 312) (by omega) (by omega) ?_
  refine lv_iconst (v := 0) hx hb dX4_reckon_32 (by decide) ?_
  refine lv_istore_n (lv' := [(1, .int 0), (0, .ref a)]) hx hb dX4_reckon_33 rfl hl (by decide) rfl (fun ls hl => ?_)
  have eg5 : (fun _ _ => false : Nat → Nat → Bool) = idB 0 := rfl
  rw [eg5] at hR
  suffices lp34 : ∀ (n i : Nat), i ≤ N → N < i + n → ∀ (H6 : Heap) (locs : List Loc), va_S (fun q => q = a ∨ H0.size ≤ q) H0 H6 locs → RKS D H6 a ab sm fi he N o1 r1 (idB i) o2 r2 (fun _ _ => false) → ∀ ls, lv_has ls 7 [(1, .int (nI i)), (0, .ref a)] → W p l e { frames := 0, cells := 26, slots := 312, locals := 0 } s m ([.ref a] : List Value).toArray below meth c H6 locs (26) (312) (MQ below (lqQ (rkP D H0 a N ab sm fi he al be) (fun q => q = a ∨ H0.size ≤ q) H0) ([.ref a] : List Value).toArray s 26 312 (fun q => q = a ∨ H0.size ≤ q)) (F0 m 34 ls []) from lp34 (N + 1) 0  (by omega) (by omega)  _ _ hS hR  _ (lv_sub hl [0, 1] rfl)
  intro n
  induction n with
  | zero => intro i  hk1 hk2; exact absurd hk2 (by omega)
  | succ n ih34 =>
    intro i  hk34 hn34   H6 locs hS hR  ls hl
    refine lv_iload_n hx hb dX4_reckon_34 rfl (lv_at hl 0 rfl) ?_
    refine lv_aload_n hx hb dX4_reckon_35 rfl (lv_at hl 1 rfl) ?_
    refine fa_get (D := D) (ci := 4) (v := .int (nI N)) (C := RX4) (T := TX4) (N := 7) hx hb hts hinX4 hown hK hR.1 rfl 0 (by decide) (hts (.fieldLink RX4 25 "CairnShellsLaw$Sim" "n" "I") (by decide +kernel)) (fun _ h9 => h9) rfl dX4_reckon_36 ?_
    refine my_geN (x := i) (y := N) (tgt := 57) hx hb dX4_reckon_39 (by decide) (by omega) (by omega) (fun h7 => ?_) (fun h7 => ?_)
    · obtain rfl : N = i := by omega
      refine lv_aload_n hx hb dX4_reckon_57 rfl (lv_at hl 1 rfl) ?_
      refine fa_get (D := D) (ci := 4) (v := .ref sm) (C := RX4) (T := TX4) (N := 7) hx hb hts hinX4 hown hK hR.1 rfl 2 (by decide) (hts (.fieldLink RX4 15 "CairnShellsLaw$Sim" "sames" "[[I") (by decide +kernel)) (fun _ h9 => h9) rfl dX4_reckon_58 ?_
      refine lv_astore_n (lv' := [(1, .ref sm), (0, .ref a)]) hx hb dX4_reckon_61 rfl hl (by decide) rfl (fun ls hl => ?_)
      refine lv_aload_n hx hb dX4_reckon_62 rfl (lv_at hl 0 rfl) ?_
      refine fa_alen 2 hx hb hK rfl (old_at hS hsm.1 hnsm) dX4_reckon_63 ?_
      refine W.eq (g2 := F0 m 64 ls [.int (nI mS)]) rfl ?_
      refine lv_istore_n (lv' := [(2, .int (nI mS)), (1, .ref sm), (0, .ref a)]) hx hb dX4_reckon_64 rfl hl (by decide) rfl (fun ls hl => ?_)
      refine lv_iconst (v := 0) hx hb dX4_reckon_65 (by decide) ?_
      refine lv_istore_n (lv' := [(3, .int 0), (2, .int (nI mS)), (1, .ref sm), (0, .ref a)]) hx hb dX4_reckon_66 rfl hl (by decide) rfl (fun ls hl => ?_)
      have eg8 : (idB N : Nat → Nat → Bool) = smB (idB N) sx sy 0 := rfl
      rw [eg8] at hR
      suffices lp67 : ∀ (n t : Nat), t ≤ mS → mS < t + n → ∀ (H9 : Heap) (locs : List Loc), va_S (fun q => q = a ∨ H0.size ≤ q) H0 H9 locs → RKS D H9 a ab sm fi he N o1 r1 (smB (idB N) sx sy t) o2 r2 (fun _ _ => false) → ∀ ls, lv_has ls 7 [(3, .int (nI t)), (2, .int (nI mS)), (1, .ref sm), (0, .ref a)] → W p l e { frames := 0, cells := 26, slots := 312, locals := 0 } s m ([.ref a] : List Value).toArray below meth c H9 locs (26) (312) (MQ below (lqQ (rkP D H0 a N ab sm fi he al be) (fun q => q = a ∨ H0.size ≤ q) H0) ([.ref a] : List Value).toArray s 26 312 (fun q => q = a ∨ H0.size ≤ q)) (F0 m 67 ls []) from lp67 (mS + 1) 0  (by omega) (by omega)  _ _ hS hR  _ (lv_sub hl [0, 1, 2, 3] rfl)
      intro n
      induction n with
      | zero => intro t  hk1 hk2; exact absurd hk2 (by omega)
      | succ n ih67 =>
        intro t  hk67 hn67   H9 locs hS hR  ls hl
        refine lv_iload_n hx hb dX4_reckon_67 rfl (lv_at hl 0 rfl) ?_
        refine lv_iload_n hx hb dX4_reckon_68 rfl (lv_at hl 1 rfl) ?_
        refine my_geN (x := t) (y := mS) (tgt := 113) hx hb dX4_reckon_69 (by decide) (by omega) (by omega) (fun h10 => ?_) (fun h10 => ?_)
        · obtain rfl : mS = t := by omega
          refine lv_iconst (v := 0) hx hb dX4_reckon_113 (by decide) ?_
          refine lv_istore_n (lv' := [(1, .int 0), (3, .int (nI mS)), (2, .int (nI mS)), (0, .ref a)]) hx hb dX4_reckon_114 rfl hl (by decide) rfl (fun ls hl => ?_)
          have eg11 : (smB (idB N) sx sy mS : Nat → Nat → Bool) = fwK (smB (idB N) sx sy mS) N 0 := rfl
          rw [eg11] at hR
          suffices lp115 : ∀ (n k1 : Nat), k1 ≤ N → N < k1 + n → ∀ (H12 : Heap) (locs : List Loc), va_S (fun q => q = a ∨ H0.size ≤ q) H0 H12 locs → RKS D H12 a ab sm fi he N o1 r1 (fwK (smB (idB N) sx sy mS) N k1) o2 r2 (fun _ _ => false) → ∀ ls, lv_has ls 7 [(1, .int (nI k1)), (0, .ref a)] → W p l e { frames := 0, cells := 26, slots := 312, locals := 0 } s m ([.ref a] : List Value).toArray below meth c H12 locs (26) (312) (MQ below (lqQ (rkP D H0 a N ab sm fi he al be) (fun q => q = a ∨ H0.size ≤ q) H0) ([.ref a] : List Value).toArray s 26 312 (fun q => q = a ∨ H0.size ≤ q)) (F0 m 115 ls []) from lp115 (N + 1) 0  (by omega) (by omega)  _ _ hS hR  _ (lv_sub hl [0, 3] rfl)
          intro n
          induction n with
          | zero => intro k1  hk1 hk2; exact absurd hk2 (by omega)
          | succ n ih115 =>
            intro k1  hk115 hn115   H12 locs hS hR  ls hl
            refine lv_iload_n hx hb dX4_reckon_115 rfl (lv_at hl 0 rfl) ?_
            refine lv_aload_n hx hb dX4_reckon_116 rfl (lv_at hl 1 rfl) ?_
            refine fa_get (D := D) (ci := 4) (v := .int (nI N)) (C := RX4) (T := TX4) (N := 7) hx hb hts hinX4 hown hK hR.1 rfl 0 (by decide) (hts (.fieldLink RX4 25 "CairnShellsLaw$Sim" "n" "I") (by decide +kernel)) (fun _ h9 => h9) rfl dX4_reckon_117 ?_
            refine my_geN (x := k1) (y := N) (tgt := 207) hx hb dX4_reckon_120 (by decide) (by omega) (by omega) (fun h13 => ?_) (fun h13 => ?_)
            · obtain rfl : N = k1 := by omega
              refine lv_aload_n hx hb dX4_reckon_207 rfl (lv_at hl 1 rfl) ?_
              refine fa_get (D := D) (ci := 4) (v := .ref ab) (C := RX4) (T := TX4) (N := 7) hx hb hts hinX4 hown hK hR.1 rfl 1 (by decide) (hts (.fieldLink RX4 9 "CairnShellsLaw$Sim" "aboves" "[[I") (by decide +kernel)) (fun _ h9 => h9) rfl dX4_reckon_208 ?_
              refine lv_astore_n (lv' := [(1, .ref ab), (0, .ref a)]) hx hb dX4_reckon_211 rfl hl (by decide) rfl (fun ls hl => ?_)
              refine lv_aload_n hx hb dX4_reckon_212 rfl (lv_at hl 0 rfl) ?_
              refine fa_alen 2 hx hb hK rfl (old_at hS hab.1 hnab) dX4_reckon_213 ?_
              refine W.eq (g2 := F0 m 214 ls [.int (nI mA)]) rfl ?_
              refine lv_istore_n (lv' := [(2, .int (nI mA)), (1, .ref ab), (0, .ref a)]) hx hb dX4_reckon_214 rfl hl (by decide) rfl (fun ls hl => ?_)
              refine lv_iconst (v := 0) hx hb dX4_reckon_215 (by decide) ?_
              refine lv_istore_n (lv' := [(3, .int 0), (2, .int (nI mA)), (1, .ref ab), (0, .ref a)]) hx hb dX4_reckon_216 rfl hl (by decide) rfl (fun ls hl => ?_)
              have eg14 : (fun _ _ => false : Nat → Nat → Bool) = avT (fun _ _ => false) (fwK (smB (idB N) sx sy mS) N N) ax ay N 0 := rfl
              rw [eg14] at hR
              suffices lp217 : ∀ (n t2 : Nat), t2 ≤ mA → mA < t2 + n → ∀ (H15 : Heap) (locs : List Loc), va_S (fun q => q = a ∨ H0.size ≤ q) H0 H15 locs → RKS D H15 a ab sm fi he N o1 r1 (fwK (smB (idB N) sx sy mS) N N) o2 r2 (avT (fun _ _ => false) (fwK (smB (idB N) sx sy mS) N N) ax ay N t2) → ∀ ls, lv_has ls 7 [(3, .int (nI t2)), (2, .int (nI mA)), (1, .ref ab), (0, .ref a)] → W p l e { frames := 0, cells := 26, slots := 312, locals := 0 } s m ([.ref a] : List Value).toArray below meth c H15 locs (26) (312) (MQ below (lqQ (rkP D H0 a N ab sm fi he al be) (fun q => q = a ∨ H0.size ≤ q) H0) ([.ref a] : List Value).toArray s 26 312 (fun q => q = a ∨ H0.size ≤ q)) (F0 m 217 ls []) from lp217 (mA + 1) 0  (by omega) (by omega)  _ _ hS hR  _ (lv_sub hl [0, 1, 2, 3] rfl)
              intro n
              induction n with
              | zero => intro t2  hk1 hk2; exact absurd hk2 (by omega)
              | succ n ih217 =>
                intro t2  hk217 hn217   H15 locs hS hR  ls hl
                refine lv_iload_n hx hb dX4_reckon_217 rfl (lv_at hl 0 rfl) ?_
                refine lv_iload_n hx hb dX4_reckon_218 rfl (lv_at hl 1 rfl) ?_
                refine my_geN (x := t2) (y := mA) (tgt := 310) hx hb dX4_reckon_219 (by decide) (by omega) (by omega) (fun h16 => ?_) (fun h16 => ?_)
                · obtain rfl : mA = t2 := by omega
                  refine lv_iconst (v := 0) hx hb dX4_reckon_310 (by decide) ?_
                  refine lv_istore_n (lv' := [(1, .int 0), (3, .int (nI mA)), (2, .int (nI mA)), (0, .ref a)]) hx hb dX4_reckon_311 rfl hl (by decide) rfl (fun ls hl => ?_)
                  have eg17 : (avT (fun _ _ => false) (fwK (smB (idB N) sx sy mS) N N) ax ay N mA : Nat → Nat → Bool) = fwK (avT (fun _ _ => false) (fwK (smB (idB N) sx sy mS) N N) ax ay N mA) N 0 := rfl
                  rw [eg17] at hR
                  suffices lp312 : ∀ (n k3 : Nat), k3 ≤ N → N < k3 + n → ∀ (H18 : Heap) (locs : List Loc), va_S (fun q => q = a ∨ H0.size ≤ q) H0 H18 locs → RKS D H18 a ab sm fi he N o1 r1 (fwK (smB (idB N) sx sy mS) N N) o2 r2 (fwK (avT (fun _ _ => false) (fwK (smB (idB N) sx sy mS) N N) ax ay N mA) N k3) → ∀ ls, lv_has ls 7 [(1, .int (nI k3)), (0, .ref a)] → W p l e { frames := 0, cells := 26, slots := 312, locals := 0 } s m ([.ref a] : List Value).toArray below meth c H18 locs (26) (312) (MQ below (lqQ (rkP D H0 a N ab sm fi he al be) (fun q => q = a ∨ H0.size ≤ q) H0) ([.ref a] : List Value).toArray s 26 312 (fun q => q = a ∨ H0.size ≤ q)) (F0 m 312 ls []) from lp312 (N + 1) 0  (by omega) (by omega)  _ _ hS hR  _ (lv_sub hl [0, 3] rfl)
                  intro n
                  induction n with
                  | zero => intro k3  hk1 hk2; exact absurd hk2 (by omega)
                  | succ n ih312 =>
                    intro k3  hk312 hn312   H18 locs hS hR  ls hl
                    refine lv_iload_n hx hb dX4_reckon_312 rfl (lv_at hl 0 rfl) ?_
                    refine lv_aload_n hx hb dX4_reckon_313 rfl (lv_at hl 1 rfl) ?_
                    refine fa_get (D := D) (ci := 4) (v := .int (nI N)) (C := RX4) (T := TX4) (N := 7) hx hb hts hinX4 hown hK hR.1 rfl 0 (by decide) (hts (.fieldLink RX4 25 "CairnShellsLaw$Sim" "n" "I") (by decide +kernel)) (fun _ h9 => h9) rfl dX4_reckon_314 ?_
                    refine my_geN (x := k3) (y := N) (tgt := 404) hx hb dX4_reckon_317 (by decide) (by omega) (by omega) (fun h19 => ?_) (fun h19 => ?_)
                    · obtain rfl : N = k3 := by omega
                      refine lv_aload_n hx hb dX4_reckon_404 rfl (lv_at hl 1 rfl) ?_
                      exact LQ_aret hx hb hr (by first | exact Or.inl ⟨_, rfl⟩ | exact Or.inr ⟨_, rfl⟩) hlk dX4_reckon_405 (by omega) (by omega) (rk_end hI hs hl2 hd hR) hS
                    · refine lv_iconst (v := 0) hx hb dX4_reckon_320 (by decide) ?_
                      refine lv_istore_n (lv' := [(2, .int 0), (1, .int (nI k3)), (0, .ref a)]) hx hb dX4_reckon_321 rfl hl (by decide) rfl (fun ls hl => ?_)
                      have eg20 : (fwK (avT (fun _ _ => false) (fwK (smB (idB N) sx sy mS) N N) ax ay N mA) N k3 : Nat → Nat → Bool) = fwA (fwK (avT (fun _ _ => false) (fwK (smB (idB N) sx sy mS) N N) ax ay N mA) N k3) N k3 0 := rfl
                      rw [eg20] at hR
                      suffices lp322 : ∀ (n x3 : Nat), x3 ≤ N → N < x3 + n → ∀ (H21 : Heap) (locs : List Loc), va_S (fun q => q = a ∨ H0.size ≤ q) H0 H21 locs → RKS D H21 a ab sm fi he N o1 r1 (fwK (smB (idB N) sx sy mS) N N) o2 r2 (fwA (fwK (avT (fun _ _ => false) (fwK (smB (idB N) sx sy mS) N N) ax ay N mA) N k3) N k3 x3) → ∀ ls, lv_has ls 7 [(2, .int (nI x3)), (1, .int (nI k3)), (0, .ref a)] → W p l e { frames := 0, cells := 26, slots := 312, locals := 0 } s m ([.ref a] : List Value).toArray below meth c H21 locs (26) (312) (MQ below (lqQ (rkP D H0 a N ab sm fi he al be) (fun q => q = a ∨ H0.size ≤ q) H0) ([.ref a] : List Value).toArray s 26 312 (fun q => q = a ∨ H0.size ≤ q)) (F0 m 322 ls []) from lp322 (N + 1) 0  (by omega) (by omega)  _ _ hS hR  _ (lv_sub hl [0, 1, 2] rfl)
                      intro n
                      induction n with
                      | zero => intro x3  hk1 hk2; exact absurd hk2 (by omega)
                      | succ n ih322 =>
                        intro x3  hk322 hn322   H21 locs hS hR  ls hl
                        refine lv_iload_n hx hb dX4_reckon_322 rfl (lv_at hl 0 rfl) ?_
                        refine lv_aload_n hx hb dX4_reckon_323 rfl (lv_at hl 2 rfl) ?_
                        refine fa_get (D := D) (ci := 4) (v := .int (nI N)) (C := RX4) (T := TX4) (N := 7) hx hb hts hinX4 hown hK hR.1 rfl 0 (by decide) (hts (.fieldLink RX4 25 "CairnShellsLaw$Sim" "n" "I") (by decide +kernel)) (fun _ h9 => h9) rfl dX4_reckon_324 ?_
                        refine my_geN (x := x3) (y := N) (tgt := 398) hx hb dX4_reckon_327 (by decide) (by omega) (by omega) (fun h22 => ?_) (fun h22 => ?_)
                        · obtain rfl : N = x3 := by omega
                          refine lv_iinc (v := nI (k3 + 1)) (x := nI k3) (lv' := [(1, .int (nI (k3 + 1))), (2, .int (nI N)), (0, .ref a)]) hx hb dX4_reckon_398 hl (k := 1) rfl (nI_1 k3) (by decide) rfl (fun ls hl => ?_)
                          refine lv_goto (tgt := 312) hx hb dX4_reckon_401 (by decide) ?_
                          have eg23 : (fwA (fwK (avT (fun _ _ => false) (fwK (smB (idB N) sx sy mS) N N) ax ay N mA) N k3) N k3 N : Nat → Nat → Bool) = fwK (avT (fun _ _ => false) (fwK (smB (idB N) sx sy mS) N N) ax ay N mA) N (k3 + 1) := rfl
                          rw [eg23] at hR
                          exact ih312 (k3 + 1)  (by omega) (by omega)  _ _ hS hR  _ (lv_sub hl [0, 2] rfl)
                        · refine lv_iconst (v := 0) hx hb dX4_reckon_330 (by decide) ?_
                          refine lv_istore_n (lv' := [(3, .int 0), (2, .int (nI x3)), (1, .int (nI k3)), (0, .ref a)]) hx hb dX4_reckon_331 rfl hl (by decide) rfl (fun ls hl => ?_)
                          have eg24 : (fwA (fwK (avT (fun _ _ => false) (fwK (smB (idB N) sx sy mS) N N) ax ay N mA) N k3) N k3 x3 : Nat → Nat → Bool) = fwB (fwA (fwK (avT (fun _ _ => false) (fwK (smB (idB N) sx sy mS) N N) ax ay N mA) N k3) N k3 x3) k3 x3 0 := rfl
                          rw [eg24] at hR
                          suffices lp332 : ∀ (n y3 : Nat), y3 ≤ N → N < y3 + n → ∀ (H25 : Heap) (locs : List Loc), va_S (fun q => q = a ∨ H0.size ≤ q) H0 H25 locs → RKS D H25 a ab sm fi he N o1 r1 (fwK (smB (idB N) sx sy mS) N N) o2 r2 (fwB (fwA (fwK (avT (fun _ _ => false) (fwK (smB (idB N) sx sy mS) N N) ax ay N mA) N k3) N k3 x3) k3 x3 y3) → ∀ ls, lv_has ls 7 [(3, .int (nI y3)), (2, .int (nI x3)), (1, .int (nI k3)), (0, .ref a)] → W p l e { frames := 0, cells := 26, slots := 312, locals := 0 } s m ([.ref a] : List Value).toArray below meth c H25 locs (26) (312) (MQ below (lqQ (rkP D H0 a N ab sm fi he al be) (fun q => q = a ∨ H0.size ≤ q) H0) ([.ref a] : List Value).toArray s 26 312 (fun q => q = a ∨ H0.size ≤ q)) (F0 m 332 ls []) from lp332 (N + 1) 0  (by omega) (by omega)  _ _ hS hR  _ (lv_sub hl [0, 1, 2, 3] rfl)
                          intro n
                          induction n with
                          | zero => intro y3  hk1 hk2; exact absurd hk2 (by omega)
                          | succ n ih332 =>
                            intro y3  hk332 hn332   H25 locs hS hR  ls hl
                            refine lv_iload_n hx hb dX4_reckon_332 rfl (lv_at hl 0 rfl) ?_
                            refine lv_aload_n hx hb dX4_reckon_333 rfl (lv_at hl 3 rfl) ?_
                            refine fa_get (D := D) (ci := 4) (v := .int (nI N)) (C := RX4) (T := TX4) (N := 7) hx hb hts hinX4 hown hK hR.1 rfl 0 (by decide) (hts (.fieldLink RX4 25 "CairnShellsLaw$Sim" "n" "I") (by decide +kernel)) (fun _ h9 => h9) rfl dX4_reckon_334 ?_
                            refine my_geN (x := y3) (y := N) (tgt := 392) hx hb dX4_reckon_337 (by decide) (by omega) (by omega) (fun h26 => ?_) (fun h26 => ?_)
                            · obtain rfl : N = y3 := by omega
                              refine lv_iinc (v := nI (x3 + 1)) (x := nI x3) (lv' := [(2, .int (nI (x3 + 1))), (3, .int (nI N)), (1, .int (nI k3)), (0, .ref a)]) hx hb dX4_reckon_392 hl (k := 1) rfl (nI_1 x3) (by decide) rfl (fun ls hl => ?_)
                              refine lv_goto (tgt := 322) hx hb dX4_reckon_395 (by decide) ?_
                              have eg27 : (fwB (fwA (fwK (avT (fun _ _ => false) (fwK (smB (idB N) sx sy mS) N N) ax ay N mA) N k3) N k3 x3) k3 x3 N : Nat → Nat → Bool) = fwA (fwK (avT (fun _ _ => false) (fwK (smB (idB N) sx sy mS) N N) ax ay N mA) N k3) N k3 (x3 + 1) := rfl
                              rw [eg27] at hR
                              exact ih322 (x3 + 1)  (by omega) (by omega)  _ _ hS hR  _ (lv_sub hl [0, 2, 3] rfl)
                            · refine lv_aload_n hx hb dX4_reckon_340 rfl (lv_at hl 3 rfl) ?_
                              refine fa_get (D := D) (ci := 4) (v := .ref o2) (C := RX4) (T := TX4) (N := 7) hx hb hts hinX4 hown hK hR.1 rfl 6 (by decide) (hts (.fieldLink RX4 34 "CairnShellsLaw$Sim" "later" "[[Z") (by decide +kernel)) (fun _ h9 => h9) rfl dX4_reckon_341 ?_
                              refine lv_iload_n hx hb dX4_reckon_344 rfl (lv_at hl 1 rfl) ?_
                              refine fa_aald 3 hx hb hK rfl rfl hR.2.2.1 rfl (by omega) (by omega) dX4_reckon_345 ?_
                              refine lv_iload_n hx hb dX4_reckon_346 rfl (lv_at hl 0 rfl) ?_
                              suffices jn28 : ∀ ls, lv_has ls 7 [(3, .int (nI y3)), (2, .int (nI x3)), (1, .int (nI k3)), (0, .ref a)] → W p l e { frames := 0, cells := 26, slots := 312, locals := 0 } s m ([.ref a] : List Value).toArray below meth c H25 locs (26) (312) (MQ below (lqQ (rkP D H0 a N ab sm fi he al be) (fun q => q = a ∨ H0.size ≤ q) H0) ([.ref a] : List Value).toArray s 26 312 (fun q => q = a ∨ H0.size ≤ q)) (F0 m 385 ls [.int (bI ((fwB (fwA (fwK (avT (fun _ _ => false) (fwK (smB (idB N) sx sy mS) N N) ax ay N mA) N k3) N k3 x3) k3 x3 y3) x3 y3 || ((fwB (fwA (fwK (avT (fun _ _ => false) (fwK (smB (idB N) sx sy mS) N N) ax ay N mA) N k3) N k3 x3) k3 x3 y3) x3 k3 && (fwB (fwA (fwK (avT (fun _ _ => false) (fwK (smB (idB N) sx sy mS) N N) ax ay N mA) N k3) N k3 x3) k3 x3 y3) k3 y3))), .int (nI y3), .ref (r2 x3)]) by
                                refine lv_aload_n hx hb dX4_reckon_347 rfl (lv_at hl 3 rfl) ?_
                                refine fa_get (D := D) (ci := 4) (v := .ref o2) (C := RX4) (T := TX4) (N := 7) hx hb hts hinX4 hown hK hR.1 rfl 6 (by decide) (hts (.fieldLink RX4 34 "CairnShellsLaw$Sim" "later" "[[Z") (by decide +kernel)) (fun _ h9 => h9) rfl dX4_reckon_348 ?_
                                refine lv_iload_n hx hb dX4_reckon_351 rfl (lv_at hl 1 rfl) ?_
                                refine fa_aald 3 hx hb hK rfl rfl hR.2.2.1 rfl (by omega) (by omega) dX4_reckon_352 ?_
                                refine lv_iload_n hx hb dX4_reckon_353 rfl (lv_at hl 0 rfl) ?_
                                refine fa_zald (D := D) (j := y3) hx hb hK (hR.2.2.2 x3 (by omega)) (by omega) (by omega) dX4_reckon_354 ?_
                                refine my_ifne_b (tgt := 380) hx hb dX4_reckon_355 (by decide) (fun h29 => ?_) (fun h29 => ?_)
                                · refine lv_iconst (v := 1) hx hb dX4_reckon_380 (by decide) ?_
                                  refine lv_goto (tgt := 385) hx hb dX4_reckon_381 (by decide) ?_
                                  have e9 : (1 : Int32) = bI ((fwB (fwA (fwK (avT (fun _ _ => false) (fwK (smB (idB N) sx sy mS) N N) ax ay N mA) N k3) N k3 x3) k3 x3 y3) x3 y3 || ((fwB (fwA (fwK (avT (fun _ _ => false) (fwK (smB (idB N) sx sy mS) N N) ax ay N mA) N k3) N k3 x3) k3 x3 y3) x3 k3 && (fwB (fwA (fwK (avT (fun _ _ => false) (fwK (smB (idB N) sx sy mS) N N) ax ay N mA) N k3) N k3 x3) k3 x3 y3) k3 y3)) := (by first | exact bI_of h29 | exact bI_of (by simp [h7, h10, h13, h16, h19, h22, h26, h29]))
                                  exact W.eq (congrArg (fun v9 => F0 m 385 ls [.int v9, .int (nI y3), .ref (r2 x3)]) e9) (jn28 _ hl)
                                · refine lv_aload_n hx hb dX4_reckon_358 rfl (lv_at hl 3 rfl) ?_
                                  refine fa_get (D := D) (ci := 4) (v := .ref o2) (C := RX4) (T := TX4) (N := 7) hx hb hts hinX4 hown hK hR.1 rfl 6 (by decide) (hts (.fieldLink RX4 34 "CairnShellsLaw$Sim" "later" "[[Z") (by decide +kernel)) (fun _ h9 => h9) rfl dX4_reckon_359 ?_
                                  refine lv_iload_n hx hb dX4_reckon_362 rfl (lv_at hl 1 rfl) ?_
                                  refine fa_aald 3 hx hb hK rfl rfl hR.2.2.1 rfl (by omega) (by omega) dX4_reckon_363 ?_
                                  refine lv_iload_n hx hb dX4_reckon_364 rfl (lv_at hl 2 rfl) ?_
                                  refine fa_zald (D := D) (j := k3) hx hb hK (hR.2.2.2 x3 (by omega)) (by omega) (by omega) dX4_reckon_365 ?_
                                  refine my_ifeq_b (tgt := 384) hx hb dX4_reckon_366 (by decide) (fun h30 => ?_) (fun h30 => ?_)
                                  · refine lv_iconst (v := 0) hx hb dX4_reckon_384 (by decide) ?_
                                    have e9 : (0 : Int32) = bI ((fwB (fwA (fwK (avT (fun _ _ => false) (fwK (smB (idB N) sx sy mS) N N) ax ay N mA) N k3) N k3 x3) k3 x3 y3) x3 y3 || ((fwB (fwA (fwK (avT (fun _ _ => false) (fwK (smB (idB N) sx sy mS) N N) ax ay N mA) N k3) N k3 x3) k3 x3 y3) x3 k3 && (fwB (fwA (fwK (avT (fun _ _ => false) (fwK (smB (idB N) sx sy mS) N N) ax ay N mA) N k3) N k3 x3) k3 x3 y3) k3 y3)) := (by first | exact bI_no h30 | exact bI_no (by simp [h7, h10, h13, h16, h19, h22, h26, h29, h30]))
                                    exact W.eq (congrArg (fun v9 => F0 m 385 ls [.int v9, .int (nI y3), .ref (r2 x3)]) e9) (jn28 _ hl)
                                  · refine lv_aload_n hx hb dX4_reckon_369 rfl (lv_at hl 3 rfl) ?_
                                    refine fa_get (D := D) (ci := 4) (v := .ref o2) (C := RX4) (T := TX4) (N := 7) hx hb hts hinX4 hown hK hR.1 rfl 6 (by decide) (hts (.fieldLink RX4 34 "CairnShellsLaw$Sim" "later" "[[Z") (by decide +kernel)) (fun _ h9 => h9) rfl dX4_reckon_370 ?_
                                    refine lv_iload_n hx hb dX4_reckon_373 rfl (lv_at hl 2 rfl) ?_
                                    refine fa_aald 3 hx hb hK rfl rfl hR.2.2.1 rfl (by omega) (by omega) dX4_reckon_374 ?_
                                    refine lv_iload_n hx hb dX4_reckon_375 rfl (lv_at hl 0 rfl) ?_
                                    refine fa_zald (D := D) (j := y3) hx hb hK (hR.2.2.2 k3 (by omega)) (by omega) (by omega) dX4_reckon_376 ?_
                                    refine my_ifeq_b (tgt := 384) hx hb dX4_reckon_377 (by decide) (fun h31 => ?_) (fun h31 => ?_)
                                    · refine lv_iconst (v := 0) hx hb dX4_reckon_384 (by decide) ?_
                                      have e9 : (0 : Int32) = bI ((fwB (fwA (fwK (avT (fun _ _ => false) (fwK (smB (idB N) sx sy mS) N N) ax ay N mA) N k3) N k3 x3) k3 x3 y3) x3 y3 || ((fwB (fwA (fwK (avT (fun _ _ => false) (fwK (smB (idB N) sx sy mS) N N) ax ay N mA) N k3) N k3 x3) k3 x3 y3) x3 k3 && (fwB (fwA (fwK (avT (fun _ _ => false) (fwK (smB (idB N) sx sy mS) N N) ax ay N mA) N k3) N k3 x3) k3 x3 y3) k3 y3)) := (by first | exact bI_no h31 | exact bI_no (by simp [h7, h10, h13, h16, h19, h22, h26, h29, h30, h31]))
                                      exact W.eq (congrArg (fun v9 => F0 m 385 ls [.int v9, .int (nI y3), .ref (r2 x3)]) e9) (jn28 _ hl)
                                    · refine lv_iconst (v := 1) hx hb dX4_reckon_380 (by decide) ?_
                                      refine lv_goto (tgt := 385) hx hb dX4_reckon_381 (by decide) ?_
                                      have e9 : (1 : Int32) = bI ((fwB (fwA (fwK (avT (fun _ _ => false) (fwK (smB (idB N) sx sy mS) N N) ax ay N mA) N k3) N k3 x3) k3 x3 y3) x3 y3 || ((fwB (fwA (fwK (avT (fun _ _ => false) (fwK (smB (idB N) sx sy mS) N N) ax ay N mA) N k3) N k3 x3) k3 x3 y3) x3 k3 && (fwB (fwA (fwK (avT (fun _ _ => false) (fwK (smB (idB N) sx sy mS) N N) ax ay N mA) N k3) N k3 x3) k3 x3 y3) k3 y3)) := (by first | exact bI_of h31 | exact bI_of (by simp [h7, h10, h13, h16, h19, h22, h26, h29, h30, h31]))
                                      exact W.eq (congrArg (fun v9 => F0 m 385 ls [.int v9, .int (nI y3), .ref (r2 x3)]) e9) (jn28 _ hl)
                              intro ls hl
                              refine rk_st2 (b := ((fwB (fwA (fwK (avT (fun _ _ => false) (fwK (smB (idB N) sx sy mS) N N) ax ay N mA) N k3) N k3 x3) k3 x3 y3) x3 y3 || ((fwB (fwA (fwK (avT (fun _ _ => false) (fwK (smB (idB N) sx sy mS) N N) ax ay N mA) N k3) N k3 x3) k3 x3 y3) x3 k3 && (fwB (fwA (fwK (avT (fun _ _ => false) (fwK (smB (idB N) sx sy mS) N N) ax ay N mA) N k3) N k3 x3) k3 x3 y3) k3 y3))) (i := x3) (j := y3) hx hb hK hd hR hS (by omega) (by omega) (by omega) dX4_reckon_385 (fun H32 locs hS hR => ?_)
                              refine lv_iinc (v := nI (y3 + 1)) (x := nI y3) (lv' := [(3, .int (nI (y3 + 1))), (2, .int (nI x3)), (1, .int (nI k3)), (0, .ref a)]) hx hb dX4_reckon_386 hl (k := 0) rfl (nI_1 y3) (by decide) rfl (fun ls hl => ?_)
                              refine lv_goto (tgt := 332) hx hb dX4_reckon_389 (by decide) ?_
                              have eg33 : (up2 (fwB (fwA (fwK (avT (fun _ _ => false) (fwK (smB (idB N) sx sy mS) N N) ax ay N mA) N k3) N k3 x3) k3 x3 y3) x3 y3 ((fwB (fwA (fwK (avT (fun _ _ => false) (fwK (smB (idB N) sx sy mS) N N) ax ay N mA) N k3) N k3 x3) k3 x3 y3) x3 y3 || ((fwB (fwA (fwK (avT (fun _ _ => false) (fwK (smB (idB N) sx sy mS) N N) ax ay N mA) N k3) N k3 x3) k3 x3 y3) x3 k3 && (fwB (fwA (fwK (avT (fun _ _ => false) (fwK (smB (idB N) sx sy mS) N N) ax ay N mA) N k3) N k3 x3) k3 x3 y3) k3 y3)) : Nat → Nat → Bool) = fwB (fwA (fwK (avT (fun _ _ => false) (fwK (smB (idB N) sx sy mS) N N) ax ay N mA) N k3) N k3 x3) k3 x3 (y3 + 1) := rfl
                              rw [eg33] at hR
                              exact ih332 (y3 + 1)  (by omega) (by omega)  _ _ hS hR  _ (lv_sub hl [0, 1, 2, 3] rfl)
                · refine lv_aload_n hx hb dX4_reckon_222 rfl (lv_at hl 2 rfl) ?_
                  refine lv_iload_n hx hb dX4_reckon_223 rfl (lv_at hl 0 rfl) ?_
                  refine fa_aald 2 hx hb hK rfl rfl (old_at hS hab.1 hnab) rfl (by omega) (by omega) dX4_reckon_224 ?_
                  refine lv_astore (lv' := [(4, .ref (rab t2)), (3, .int (nI t2)), (2, .int (nI mA)), (1, .ref ab), (0, .ref a)]) hx hb dX4_reckon_225 hl (by decide) rfl (fun ls hl => ?_)
                  obtain ⟨hx1, hx2, -⟩ := hl2.1 t2 (by omega)
                  refine lv_iconst (v := 0) hx hb dX4_reckon_227 (by decide) ?_
                  refine lv_istore (lv' := [(5, .int 0), (4, .ref (rab t2)), (3, .int (nI t2)), (2, .int (nI mA)), (1, .ref ab), (0, .ref a)]) hx hb dX4_reckon_228 hl (by decide) rfl (fun ls hl => ?_)
                  have eg34 : (avT (fun _ _ => false) (fwK (smB (idB N) sx sy mS) N N) ax ay N t2 : Nat → Nat → Bool) = avA (avT (fun _ _ => false) (fwK (smB (idB N) sx sy mS) N N) ax ay N t2) (fwK (smB (idB N) sx sy mS) N N) (ax t2) (ay t2) N 0 := rfl
                  rw [eg34] at hR
                  suffices lp230 : ∀ (n x2 : Nat), x2 ≤ N → N < x2 + n → ∀ (H35 : Heap) (locs : List Loc), va_S (fun q => q = a ∨ H0.size ≤ q) H0 H35 locs → RKS D H35 a ab sm fi he N o1 r1 (fwK (smB (idB N) sx sy mS) N N) o2 r2 (avA (avT (fun _ _ => false) (fwK (smB (idB N) sx sy mS) N N) ax ay N t2) (fwK (smB (idB N) sx sy mS) N N) (ax t2) (ay t2) N x2) → ∀ ls, lv_has ls 7 [(5, .int (nI x2)), (4, .ref (rab t2)), (3, .int (nI t2)), (2, .int (nI mA)), (1, .ref ab), (0, .ref a)] → W p l e { frames := 0, cells := 26, slots := 312, locals := 0 } s m ([.ref a] : List Value).toArray below meth c H35 locs (26) (312) (MQ below (lqQ (rkP D H0 a N ab sm fi he al be) (fun q => q = a ∨ H0.size ≤ q) H0) ([.ref a] : List Value).toArray s 26 312 (fun q => q = a ∨ H0.size ≤ q)) (F0 m 230 ls []) from lp230 (N + 1) 0  (by omega) (by omega)  _ _ hS hR  _ (lv_sub hl [0, 1, 2, 3, 4, 5] rfl)
                  intro n
                  induction n with
                  | zero => intro x2  hk1 hk2; exact absurd hk2 (by omega)
                  | succ n ih230 =>
                    intro x2  hk230 hn230   H35 locs hS hR  ls hl
                    refine lv_iload hx hb dX4_reckon_230 (lv_at hl 0 rfl) ?_
                    refine lv_aload_n hx hb dX4_reckon_232 rfl (lv_at hl 5 rfl) ?_
                    refine fa_get (D := D) (ci := 4) (v := .int (nI N)) (C := RX4) (T := TX4) (N := 7) hx hb hts hinX4 hown hK hR.1 rfl 0 (by decide) (hts (.fieldLink RX4 25 "CairnShellsLaw$Sim" "n" "I") (by decide +kernel)) (fun _ h9 => h9) rfl dX4_reckon_233 ?_
                    refine my_geN (x := x2) (y := N) (tgt := 304) hx hb dX4_reckon_236 (by decide) (by omega) (by omega) (fun h36 => ?_) (fun h36 => ?_)
                    · obtain rfl : N = x2 := by omega
                      refine lv_iinc (v := nI (t2 + 1)) (x := nI t2) (lv' := [(3, .int (nI (t2 + 1))), (5, .int (nI N)), (4, .ref (rab t2)), (2, .int (nI mA)), (1, .ref ab), (0, .ref a)]) hx hb dX4_reckon_304 hl (k := 2) rfl (nI_1 t2) (by decide) rfl (fun ls hl => ?_)
                      refine lv_goto (tgt := 217) hx hb dX4_reckon_307 (by decide) ?_
                      have eg37 : (avA (avT (fun _ _ => false) (fwK (smB (idB N) sx sy mS) N N) ax ay N t2) (fwK (smB (idB N) sx sy mS) N N) (ax t2) (ay t2) N N : Nat → Nat → Bool) = avT (fun _ _ => false) (fwK (smB (idB N) sx sy mS) N N) ax ay N (t2 + 1) := rfl
                      rw [eg37] at hR
                      exact ih217 (t2 + 1)  (by omega) (by omega)  _ _ hS hR  _ (lv_sub hl [0, 3, 4, 5] rfl)
                    · refine lv_iconst (v := 0) hx hb dX4_reckon_239 (by decide) ?_
                      refine lv_istore (lv' := [(6, .int 0), (5, .int (nI x2)), (4, .ref (rab t2)), (3, .int (nI t2)), (2, .int (nI mA)), (1, .ref ab), (0, .ref a)]) hx hb dX4_reckon_240 hl (by decide) rfl (fun ls hl => ?_)
                      have eg38 : (avA (avT (fun _ _ => false) (fwK (smB (idB N) sx sy mS) N N) ax ay N t2) (fwK (smB (idB N) sx sy mS) N N) (ax t2) (ay t2) N x2 : Nat → Nat → Bool) = avB (avA (avT (fun _ _ => false) (fwK (smB (idB N) sx sy mS) N N) ax ay N t2) (fwK (smB (idB N) sx sy mS) N N) (ax t2) (ay t2) N x2) (fwK (smB (idB N) sx sy mS) N N) (ax t2) (ay t2) x2 0 := rfl
                      rw [eg38] at hR
                      suffices lp242 : ∀ (n y2 : Nat), y2 ≤ N → N < y2 + n → ∀ (H39 : Heap) (locs : List Loc), va_S (fun q => q = a ∨ H0.size ≤ q) H0 H39 locs → RKS D H39 a ab sm fi he N o1 r1 (fwK (smB (idB N) sx sy mS) N N) o2 r2 (avB (avA (avT (fun _ _ => false) (fwK (smB (idB N) sx sy mS) N N) ax ay N t2) (fwK (smB (idB N) sx sy mS) N N) (ax t2) (ay t2) N x2) (fwK (smB (idB N) sx sy mS) N N) (ax t2) (ay t2) x2 y2) → ∀ ls, lv_has ls 7 [(6, .int (nI y2)), (5, .int (nI x2)), (4, .ref (rab t2)), (3, .int (nI t2)), (2, .int (nI mA)), (1, .ref ab), (0, .ref a)] → W p l e { frames := 0, cells := 26, slots := 312, locals := 0 } s m ([.ref a] : List Value).toArray below meth c H39 locs (26) (312) (MQ below (lqQ (rkP D H0 a N ab sm fi he al be) (fun q => q = a ∨ H0.size ≤ q) H0) ([.ref a] : List Value).toArray s 26 312 (fun q => q = a ∨ H0.size ≤ q)) (F0 m 242 ls []) from lp242 (N + 1) 0  (by omega) (by omega)  _ _ hS hR  _ (lv_sub hl [0, 1, 2, 3, 4, 5, 6] rfl)
                      intro n
                      induction n with
                      | zero => intro y2  hk1 hk2; exact absurd hk2 (by omega)
                      | succ n ih242 =>
                        intro y2  hk242 hn242   H39 locs hS hR  ls hl
                        refine lv_iload hx hb dX4_reckon_242 (lv_at hl 0 rfl) ?_
                        refine lv_aload_n hx hb dX4_reckon_244 rfl (lv_at hl 6 rfl) ?_
                        refine fa_get (D := D) (ci := 4) (v := .int (nI N)) (C := RX4) (T := TX4) (N := 7) hx hb hts hinX4 hown hK hR.1 rfl 0 (by decide) (hts (.fieldLink RX4 25 "CairnShellsLaw$Sim" "n" "I") (by decide +kernel)) (fun _ h9 => h9) rfl dX4_reckon_245 ?_
                        refine my_geN (x := y2) (y := N) (tgt := 298) hx hb dX4_reckon_248 (by decide) (by omega) (by omega) (fun h40 => ?_) (fun h40 => ?_)
                        · obtain rfl : N = y2 := by omega
                          refine lv_iinc (v := nI (x2 + 1)) (x := nI x2) (lv' := [(5, .int (nI (x2 + 1))), (6, .int (nI N)), (4, .ref (rab t2)), (3, .int (nI t2)), (2, .int (nI mA)), (1, .ref ab), (0, .ref a)]) hx hb dX4_reckon_298 hl (k := 1) rfl (nI_1 x2) (by decide) rfl (fun ls hl => ?_)
                          refine lv_goto (tgt := 230) hx hb dX4_reckon_301 (by decide) ?_
                          have eg41 : (avB (avA (avT (fun _ _ => false) (fwK (smB (idB N) sx sy mS) N N) ax ay N t2) (fwK (smB (idB N) sx sy mS) N N) (ax t2) (ay t2) N x2) (fwK (smB (idB N) sx sy mS) N N) (ax t2) (ay t2) x2 N : Nat → Nat → Bool) = avA (avT (fun _ _ => false) (fwK (smB (idB N) sx sy mS) N N) ax ay N t2) (fwK (smB (idB N) sx sy mS) N N) (ax t2) (ay t2) N (x2 + 1) := rfl
                          rw [eg41] at hR
                          exact ih230 (x2 + 1)  (by omega) (by omega)  _ _ hS hR  _ (lv_sub hl [0, 2, 3, 4, 5, 6] rfl)
                        · refine lv_aload_n hx hb dX4_reckon_251 rfl (lv_at hl 6 rfl) ?_
                          refine fa_get (D := D) (ci := 4) (v := .ref o1) (C := RX4) (T := TX4) (N := 7) hx hb hts hinX4 hown hK hR.1 rfl 5 (by decide) (hts (.fieldLink RX4 31 "CairnShellsLaw$Sim" "same" "[[Z") (by decide +kernel)) (fun _ h9 => h9) rfl dX4_reckon_252 ?_
                          refine lv_iload hx hb dX4_reckon_255 (lv_at hl 1 rfl) ?_
                          refine fa_aald 3 hx hb hK rfl rfl hR.2.1.1 rfl (by omega) (by omega) dX4_reckon_257 ?_
                          refine lv_aload hx hb dX4_reckon_258 (lv_at hl 2 rfl) ?_
                          refine lv_iconst (v := 0) hx hb dX4_reckon_260 (by decide) ?_
                          refine fa_iald (D := D) (j := 0) hx hb hK (old_at hS (hab.2 t2 (by omega)) (hnrab t2 (by omega))) (by omega) (by omega) dX4_reckon_261 ?_
                          refine W.eq (g2 := F0 m 262 ls [.int (nI (ax t2)), .ref (r1 x2)]) rfl ?_
                          refine fa_zald (D := D) (j := ax t2) hx hb hK (hR.2.1.2 x2 (by omega)) (by omega) (by omega) dX4_reckon_262 ?_
                          refine my_ifeq_b (tgt := 292) hx hb dX4_reckon_263 (by decide) (fun h42 => ?_) (fun h42 => ?_)
                          · refine lv_iinc (v := nI (y2 + 1)) (x := nI y2) (lv' := [(6, .int (nI (y2 + 1))), (5, .int (nI x2)), (4, .ref (rab t2)), (3, .int (nI t2)), (2, .int (nI mA)), (1, .ref ab), (0, .ref a)]) hx hb dX4_reckon_292 hl (k := 0) rfl (nI_1 y2) (by decide) rfl (fun ls hl => ?_)
                            refine lv_goto (tgt := 242) hx hb dX4_reckon_295 (by decide) ?_
                            have eg43 : (avB (avA (avT (fun _ _ => false) (fwK (smB (idB N) sx sy mS) N N) ax ay N t2) (fwK (smB (idB N) sx sy mS) N N) (ax t2) (ay t2) N x2) (fwK (smB (idB N) sx sy mS) N N) (ax t2) (ay t2) x2 y2 : Nat → Nat → Bool) = avB (avA (avT (fun _ _ => false) (fwK (smB (idB N) sx sy mS) N N) ax ay N t2) (fwK (smB (idB N) sx sy mS) N N) (ax t2) (ay t2) N x2) (fwK (smB (idB N) sx sy mS) N N) (ax t2) (ay t2) x2 (y2 + 1) := (by simp only [avB]; rw [if_neg (by simp [h42])])
                            rw [eg43] at hR
                            exact ih242 (y2 + 1)  (by omega) (by omega)  _ _ hS hR  _ (lv_sub hl [0, 1, 2, 3, 4, 5, 6] rfl)
                          · refine lv_aload_n hx hb dX4_reckon_266 rfl (lv_at hl 6 rfl) ?_
                            refine fa_get (D := D) (ci := 4) (v := .ref o1) (C := RX4) (T := TX4) (N := 7) hx hb hts hinX4 hown hK hR.1 rfl 5 (by decide) (hts (.fieldLink RX4 31 "CairnShellsLaw$Sim" "same" "[[Z") (by decide +kernel)) (fun _ h9 => h9) rfl dX4_reckon_267 ?_
                            refine lv_iload hx hb dX4_reckon_270 (lv_at hl 0 rfl) ?_
                            refine fa_aald 3 hx hb hK rfl rfl hR.2.1.1 rfl (by omega) (by omega) dX4_reckon_272 ?_
                            refine lv_aload hx hb dX4_reckon_273 (lv_at hl 2 rfl) ?_
                            refine lv_iconst (v := 1) hx hb dX4_reckon_275 (by decide) ?_
                            refine fa_iald (D := D) (j := 1) hx hb hK (old_at hS (hab.2 t2 (by omega)) (hnrab t2 (by omega))) (by omega) (by omega) dX4_reckon_276 ?_
                            refine W.eq (g2 := F0 m 277 ls [.int (nI (ay t2)), .ref (r1 y2)]) rfl ?_
                            refine fa_zald (D := D) (j := ay t2) hx hb hK (hR.2.1.2 y2 (by omega)) (by omega) (by omega) dX4_reckon_277 ?_
                            refine my_ifeq_b (tgt := 292) hx hb dX4_reckon_278 (by decide) (fun h44 => ?_) (fun h44 => ?_)
                            · refine lv_iinc (v := nI (y2 + 1)) (x := nI y2) (lv' := [(6, .int (nI (y2 + 1))), (5, .int (nI x2)), (4, .ref (rab t2)), (3, .int (nI t2)), (2, .int (nI mA)), (1, .ref ab), (0, .ref a)]) hx hb dX4_reckon_292 hl (k := 0) rfl (nI_1 y2) (by decide) rfl (fun ls hl => ?_)
                              refine lv_goto (tgt := 242) hx hb dX4_reckon_295 (by decide) ?_
                              have eg45 : (avB (avA (avT (fun _ _ => false) (fwK (smB (idB N) sx sy mS) N N) ax ay N t2) (fwK (smB (idB N) sx sy mS) N N) (ax t2) (ay t2) N x2) (fwK (smB (idB N) sx sy mS) N N) (ax t2) (ay t2) x2 y2 : Nat → Nat → Bool) = avB (avA (avT (fun _ _ => false) (fwK (smB (idB N) sx sy mS) N N) ax ay N t2) (fwK (smB (idB N) sx sy mS) N N) (ax t2) (ay t2) N x2) (fwK (smB (idB N) sx sy mS) N N) (ax t2) (ay t2) x2 (y2 + 1) := (by simp only [avB]; rw [if_neg (by simp [h44])])
                              rw [eg45] at hR
                              exact ih242 (y2 + 1)  (by omega) (by omega)  _ _ hS hR  _ (lv_sub hl [0, 1, 2, 3, 4, 5, 6] rfl)
                            · refine lv_aload_n hx hb dX4_reckon_281 rfl (lv_at hl 6 rfl) ?_
                              refine fa_get (D := D) (ci := 4) (v := .ref o2) (C := RX4) (T := TX4) (N := 7) hx hb hts hinX4 hown hK hR.1 rfl 6 (by decide) (hts (.fieldLink RX4 34 "CairnShellsLaw$Sim" "later" "[[Z") (by decide +kernel)) (fun _ h9 => h9) rfl dX4_reckon_282 ?_
                              refine lv_iload hx hb dX4_reckon_285 (lv_at hl 1 rfl) ?_
                              refine fa_aald 3 hx hb hK rfl rfl hR.2.2.1 rfl (by omega) (by omega) dX4_reckon_287 ?_
                              refine lv_iload hx hb dX4_reckon_288 (lv_at hl 0 rfl) ?_
                              refine lv_iconst (v := 1) hx hb dX4_reckon_290 (by decide) ?_
                              refine rk_st2 (b := true) (i := x2) (j := y2) hx hb hK hd hR hS (by omega) (by omega) (by omega) dX4_reckon_291 (fun H46 locs hS hR => ?_)
                              refine lv_iinc (v := nI (y2 + 1)) (x := nI y2) (lv' := [(6, .int (nI (y2 + 1))), (5, .int (nI x2)), (4, .ref (rab t2)), (3, .int (nI t2)), (2, .int (nI mA)), (1, .ref ab), (0, .ref a)]) hx hb dX4_reckon_292 hl (k := 0) rfl (nI_1 y2) (by decide) rfl (fun ls hl => ?_)
                              refine lv_goto (tgt := 242) hx hb dX4_reckon_295 (by decide) ?_
                              have eg47 : (up2 (avB (avA (avT (fun _ _ => false) (fwK (smB (idB N) sx sy mS) N N) ax ay N t2) (fwK (smB (idB N) sx sy mS) N N) (ax t2) (ay t2) N x2) (fwK (smB (idB N) sx sy mS) N N) (ax t2) (ay t2) x2 y2) x2 y2 true : Nat → Nat → Bool) = avB (avA (avT (fun _ _ => false) (fwK (smB (idB N) sx sy mS) N N) ax ay N t2) (fwK (smB (idB N) sx sy mS) N N) (ax t2) (ay t2) N x2) (fwK (smB (idB N) sx sy mS) N N) (ax t2) (ay t2) x2 (y2 + 1) := (by simp only [avB]; rw [if_pos (by simp [h42, h44])])
                              rw [eg47] at hR
                              exact ih242 (y2 + 1)  (by omega) (by omega)  _ _ hS hR  _ (lv_sub hl [0, 1, 2, 3, 4, 5, 6] rfl)
            · refine lv_iconst (v := 0) hx hb dX4_reckon_123 (by decide) ?_
              refine lv_istore_n (lv' := [(2, .int 0), (1, .int (nI k1)), (0, .ref a)]) hx hb dX4_reckon_124 rfl hl (by decide) rfl (fun ls hl => ?_)
              have eg48 : (fwK (smB (idB N) sx sy mS) N k1 : Nat → Nat → Bool) = fwA (fwK (smB (idB N) sx sy mS) N k1) N k1 0 := rfl
              rw [eg48] at hR
              suffices lp125 : ∀ (n x1 : Nat), x1 ≤ N → N < x1 + n → ∀ (H49 : Heap) (locs : List Loc), va_S (fun q => q = a ∨ H0.size ≤ q) H0 H49 locs → RKS D H49 a ab sm fi he N o1 r1 (fwA (fwK (smB (idB N) sx sy mS) N k1) N k1 x1) o2 r2 (fun _ _ => false) → ∀ ls, lv_has ls 7 [(2, .int (nI x1)), (1, .int (nI k1)), (0, .ref a)] → W p l e { frames := 0, cells := 26, slots := 312, locals := 0 } s m ([.ref a] : List Value).toArray below meth c H49 locs (26) (312) (MQ below (lqQ (rkP D H0 a N ab sm fi he al be) (fun q => q = a ∨ H0.size ≤ q) H0) ([.ref a] : List Value).toArray s 26 312 (fun q => q = a ∨ H0.size ≤ q)) (F0 m 125 ls []) from lp125 (N + 1) 0  (by omega) (by omega)  _ _ hS hR  _ (lv_sub hl [0, 1, 2] rfl)
              intro n
              induction n with
              | zero => intro x1  hk1 hk2; exact absurd hk2 (by omega)
              | succ n ih125 =>
                intro x1  hk125 hn125   H49 locs hS hR  ls hl
                refine lv_iload_n hx hb dX4_reckon_125 rfl (lv_at hl 0 rfl) ?_
                refine lv_aload_n hx hb dX4_reckon_126 rfl (lv_at hl 2 rfl) ?_
                refine fa_get (D := D) (ci := 4) (v := .int (nI N)) (C := RX4) (T := TX4) (N := 7) hx hb hts hinX4 hown hK hR.1 rfl 0 (by decide) (hts (.fieldLink RX4 25 "CairnShellsLaw$Sim" "n" "I") (by decide +kernel)) (fun _ h9 => h9) rfl dX4_reckon_127 ?_
                refine my_geN (x := x1) (y := N) (tgt := 201) hx hb dX4_reckon_130 (by decide) (by omega) (by omega) (fun h50 => ?_) (fun h50 => ?_)
                · obtain rfl : N = x1 := by omega
                  refine lv_iinc (v := nI (k1 + 1)) (x := nI k1) (lv' := [(1, .int (nI (k1 + 1))), (2, .int (nI N)), (0, .ref a)]) hx hb dX4_reckon_201 hl (k := 1) rfl (nI_1 k1) (by decide) rfl (fun ls hl => ?_)
                  refine lv_goto (tgt := 115) hx hb dX4_reckon_204 (by decide) ?_
                  have eg51 : (fwA (fwK (smB (idB N) sx sy mS) N k1) N k1 N : Nat → Nat → Bool) = fwK (smB (idB N) sx sy mS) N (k1 + 1) := rfl
                  rw [eg51] at hR
                  exact ih115 (k1 + 1)  (by omega) (by omega)  _ _ hS hR  _ (lv_sub hl [0, 2] rfl)
                · refine lv_iconst (v := 0) hx hb dX4_reckon_133 (by decide) ?_
                  refine lv_istore_n (lv' := [(3, .int 0), (2, .int (nI x1)), (1, .int (nI k1)), (0, .ref a)]) hx hb dX4_reckon_134 rfl hl (by decide) rfl (fun ls hl => ?_)
                  have eg52 : (fwA (fwK (smB (idB N) sx sy mS) N k1) N k1 x1 : Nat → Nat → Bool) = fwB (fwA (fwK (smB (idB N) sx sy mS) N k1) N k1 x1) k1 x1 0 := rfl
                  rw [eg52] at hR
                  suffices lp135 : ∀ (n y1 : Nat), y1 ≤ N → N < y1 + n → ∀ (H53 : Heap) (locs : List Loc), va_S (fun q => q = a ∨ H0.size ≤ q) H0 H53 locs → RKS D H53 a ab sm fi he N o1 r1 (fwB (fwA (fwK (smB (idB N) sx sy mS) N k1) N k1 x1) k1 x1 y1) o2 r2 (fun _ _ => false) → ∀ ls, lv_has ls 7 [(3, .int (nI y1)), (2, .int (nI x1)), (1, .int (nI k1)), (0, .ref a)] → W p l e { frames := 0, cells := 26, slots := 312, locals := 0 } s m ([.ref a] : List Value).toArray below meth c H53 locs (26) (312) (MQ below (lqQ (rkP D H0 a N ab sm fi he al be) (fun q => q = a ∨ H0.size ≤ q) H0) ([.ref a] : List Value).toArray s 26 312 (fun q => q = a ∨ H0.size ≤ q)) (F0 m 135 ls []) from lp135 (N + 1) 0  (by omega) (by omega)  _ _ hS hR  _ (lv_sub hl [0, 1, 2, 3] rfl)
                  intro n
                  induction n with
                  | zero => intro y1  hk1 hk2; exact absurd hk2 (by omega)
                  | succ n ih135 =>
                    intro y1  hk135 hn135   H53 locs hS hR  ls hl
                    refine lv_iload_n hx hb dX4_reckon_135 rfl (lv_at hl 0 rfl) ?_
                    refine lv_aload_n hx hb dX4_reckon_136 rfl (lv_at hl 3 rfl) ?_
                    refine fa_get (D := D) (ci := 4) (v := .int (nI N)) (C := RX4) (T := TX4) (N := 7) hx hb hts hinX4 hown hK hR.1 rfl 0 (by decide) (hts (.fieldLink RX4 25 "CairnShellsLaw$Sim" "n" "I") (by decide +kernel)) (fun _ h9 => h9) rfl dX4_reckon_137 ?_
                    refine my_geN (x := y1) (y := N) (tgt := 195) hx hb dX4_reckon_140 (by decide) (by omega) (by omega) (fun h54 => ?_) (fun h54 => ?_)
                    · obtain rfl : N = y1 := by omega
                      refine lv_iinc (v := nI (x1 + 1)) (x := nI x1) (lv' := [(2, .int (nI (x1 + 1))), (3, .int (nI N)), (1, .int (nI k1)), (0, .ref a)]) hx hb dX4_reckon_195 hl (k := 1) rfl (nI_1 x1) (by decide) rfl (fun ls hl => ?_)
                      refine lv_goto (tgt := 125) hx hb dX4_reckon_198 (by decide) ?_
                      have eg55 : (fwB (fwA (fwK (smB (idB N) sx sy mS) N k1) N k1 x1) k1 x1 N : Nat → Nat → Bool) = fwA (fwK (smB (idB N) sx sy mS) N k1) N k1 (x1 + 1) := rfl
                      rw [eg55] at hR
                      exact ih125 (x1 + 1)  (by omega) (by omega)  _ _ hS hR  _ (lv_sub hl [0, 2, 3] rfl)
                    · refine lv_aload_n hx hb dX4_reckon_143 rfl (lv_at hl 3 rfl) ?_
                      refine fa_get (D := D) (ci := 4) (v := .ref o1) (C := RX4) (T := TX4) (N := 7) hx hb hts hinX4 hown hK hR.1 rfl 5 (by decide) (hts (.fieldLink RX4 31 "CairnShellsLaw$Sim" "same" "[[Z") (by decide +kernel)) (fun _ h9 => h9) rfl dX4_reckon_144 ?_
                      refine lv_iload_n hx hb dX4_reckon_147 rfl (lv_at hl 1 rfl) ?_
                      refine fa_aald 3 hx hb hK rfl rfl hR.2.1.1 rfl (by omega) (by omega) dX4_reckon_148 ?_
                      refine lv_iload_n hx hb dX4_reckon_149 rfl (lv_at hl 0 rfl) ?_
                      suffices jn56 : ∀ ls, lv_has ls 7 [(3, .int (nI y1)), (2, .int (nI x1)), (1, .int (nI k1)), (0, .ref a)] → W p l e { frames := 0, cells := 26, slots := 312, locals := 0 } s m ([.ref a] : List Value).toArray below meth c H53 locs (26) (312) (MQ below (lqQ (rkP D H0 a N ab sm fi he al be) (fun q => q = a ∨ H0.size ≤ q) H0) ([.ref a] : List Value).toArray s 26 312 (fun q => q = a ∨ H0.size ≤ q)) (F0 m 188 ls [.int (bI ((fwB (fwA (fwK (smB (idB N) sx sy mS) N k1) N k1 x1) k1 x1 y1) x1 y1 || ((fwB (fwA (fwK (smB (idB N) sx sy mS) N k1) N k1 x1) k1 x1 y1) x1 k1 && (fwB (fwA (fwK (smB (idB N) sx sy mS) N k1) N k1 x1) k1 x1 y1) k1 y1))), .int (nI y1), .ref (r1 x1)]) by
                        refine lv_aload_n hx hb dX4_reckon_150 rfl (lv_at hl 3 rfl) ?_
                        refine fa_get (D := D) (ci := 4) (v := .ref o1) (C := RX4) (T := TX4) (N := 7) hx hb hts hinX4 hown hK hR.1 rfl 5 (by decide) (hts (.fieldLink RX4 31 "CairnShellsLaw$Sim" "same" "[[Z") (by decide +kernel)) (fun _ h9 => h9) rfl dX4_reckon_151 ?_
                        refine lv_iload_n hx hb dX4_reckon_154 rfl (lv_at hl 1 rfl) ?_
                        refine fa_aald 3 hx hb hK rfl rfl hR.2.1.1 rfl (by omega) (by omega) dX4_reckon_155 ?_
                        refine lv_iload_n hx hb dX4_reckon_156 rfl (lv_at hl 0 rfl) ?_
                        refine fa_zald (D := D) (j := y1) hx hb hK (hR.2.1.2 x1 (by omega)) (by omega) (by omega) dX4_reckon_157 ?_
                        refine my_ifne_b (tgt := 183) hx hb dX4_reckon_158 (by decide) (fun h57 => ?_) (fun h57 => ?_)
                        · refine lv_iconst (v := 1) hx hb dX4_reckon_183 (by decide) ?_
                          refine lv_goto (tgt := 188) hx hb dX4_reckon_184 (by decide) ?_
                          have e9 : (1 : Int32) = bI ((fwB (fwA (fwK (smB (idB N) sx sy mS) N k1) N k1 x1) k1 x1 y1) x1 y1 || ((fwB (fwA (fwK (smB (idB N) sx sy mS) N k1) N k1 x1) k1 x1 y1) x1 k1 && (fwB (fwA (fwK (smB (idB N) sx sy mS) N k1) N k1 x1) k1 x1 y1) k1 y1)) := (by first | exact bI_of h57 | exact bI_of (by simp [h7, h10, h13, h50, h54, h57]))
                          exact W.eq (congrArg (fun v9 => F0 m 188 ls [.int v9, .int (nI y1), .ref (r1 x1)]) e9) (jn56 _ hl)
                        · refine lv_aload_n hx hb dX4_reckon_161 rfl (lv_at hl 3 rfl) ?_
                          refine fa_get (D := D) (ci := 4) (v := .ref o1) (C := RX4) (T := TX4) (N := 7) hx hb hts hinX4 hown hK hR.1 rfl 5 (by decide) (hts (.fieldLink RX4 31 "CairnShellsLaw$Sim" "same" "[[Z") (by decide +kernel)) (fun _ h9 => h9) rfl dX4_reckon_162 ?_
                          refine lv_iload_n hx hb dX4_reckon_165 rfl (lv_at hl 1 rfl) ?_
                          refine fa_aald 3 hx hb hK rfl rfl hR.2.1.1 rfl (by omega) (by omega) dX4_reckon_166 ?_
                          refine lv_iload_n hx hb dX4_reckon_167 rfl (lv_at hl 2 rfl) ?_
                          refine fa_zald (D := D) (j := k1) hx hb hK (hR.2.1.2 x1 (by omega)) (by omega) (by omega) dX4_reckon_168 ?_
                          refine my_ifeq_b (tgt := 187) hx hb dX4_reckon_169 (by decide) (fun h58 => ?_) (fun h58 => ?_)
                          · refine lv_iconst (v := 0) hx hb dX4_reckon_187 (by decide) ?_
                            have e9 : (0 : Int32) = bI ((fwB (fwA (fwK (smB (idB N) sx sy mS) N k1) N k1 x1) k1 x1 y1) x1 y1 || ((fwB (fwA (fwK (smB (idB N) sx sy mS) N k1) N k1 x1) k1 x1 y1) x1 k1 && (fwB (fwA (fwK (smB (idB N) sx sy mS) N k1) N k1 x1) k1 x1 y1) k1 y1)) := (by first | exact bI_no h58 | exact bI_no (by simp [h7, h10, h13, h50, h54, h57, h58]))
                            exact W.eq (congrArg (fun v9 => F0 m 188 ls [.int v9, .int (nI y1), .ref (r1 x1)]) e9) (jn56 _ hl)
                          · refine lv_aload_n hx hb dX4_reckon_172 rfl (lv_at hl 3 rfl) ?_
                            refine fa_get (D := D) (ci := 4) (v := .ref o1) (C := RX4) (T := TX4) (N := 7) hx hb hts hinX4 hown hK hR.1 rfl 5 (by decide) (hts (.fieldLink RX4 31 "CairnShellsLaw$Sim" "same" "[[Z") (by decide +kernel)) (fun _ h9 => h9) rfl dX4_reckon_173 ?_
                            refine lv_iload_n hx hb dX4_reckon_176 rfl (lv_at hl 2 rfl) ?_
                            refine fa_aald 3 hx hb hK rfl rfl hR.2.1.1 rfl (by omega) (by omega) dX4_reckon_177 ?_
                            refine lv_iload_n hx hb dX4_reckon_178 rfl (lv_at hl 0 rfl) ?_
                            refine fa_zald (D := D) (j := y1) hx hb hK (hR.2.1.2 k1 (by omega)) (by omega) (by omega) dX4_reckon_179 ?_
                            refine my_ifeq_b (tgt := 187) hx hb dX4_reckon_180 (by decide) (fun h59 => ?_) (fun h59 => ?_)
                            · refine lv_iconst (v := 0) hx hb dX4_reckon_187 (by decide) ?_
                              have e9 : (0 : Int32) = bI ((fwB (fwA (fwK (smB (idB N) sx sy mS) N k1) N k1 x1) k1 x1 y1) x1 y1 || ((fwB (fwA (fwK (smB (idB N) sx sy mS) N k1) N k1 x1) k1 x1 y1) x1 k1 && (fwB (fwA (fwK (smB (idB N) sx sy mS) N k1) N k1 x1) k1 x1 y1) k1 y1)) := (by first | exact bI_no h59 | exact bI_no (by simp [h7, h10, h13, h50, h54, h57, h58, h59]))
                              exact W.eq (congrArg (fun v9 => F0 m 188 ls [.int v9, .int (nI y1), .ref (r1 x1)]) e9) (jn56 _ hl)
                            · refine lv_iconst (v := 1) hx hb dX4_reckon_183 (by decide) ?_
                              refine lv_goto (tgt := 188) hx hb dX4_reckon_184 (by decide) ?_
                              have e9 : (1 : Int32) = bI ((fwB (fwA (fwK (smB (idB N) sx sy mS) N k1) N k1 x1) k1 x1 y1) x1 y1 || ((fwB (fwA (fwK (smB (idB N) sx sy mS) N k1) N k1 x1) k1 x1 y1) x1 k1 && (fwB (fwA (fwK (smB (idB N) sx sy mS) N k1) N k1 x1) k1 x1 y1) k1 y1)) := (by first | exact bI_of h59 | exact bI_of (by simp [h7, h10, h13, h50, h54, h57, h58, h59]))
                              exact W.eq (congrArg (fun v9 => F0 m 188 ls [.int v9, .int (nI y1), .ref (r1 x1)]) e9) (jn56 _ hl)
                      intro ls hl
                      refine rk_st1 (b := ((fwB (fwA (fwK (smB (idB N) sx sy mS) N k1) N k1 x1) k1 x1 y1) x1 y1 || ((fwB (fwA (fwK (smB (idB N) sx sy mS) N k1) N k1 x1) k1 x1 y1) x1 k1 && (fwB (fwA (fwK (smB (idB N) sx sy mS) N k1) N k1 x1) k1 x1 y1) k1 y1))) (i := x1) (j := y1) hx hb hK hd hR hS (by omega) (by omega) (by omega) dX4_reckon_188 (fun H60 locs hS hR => ?_)
                      refine lv_iinc (v := nI (y1 + 1)) (x := nI y1) (lv' := [(3, .int (nI (y1 + 1))), (2, .int (nI x1)), (1, .int (nI k1)), (0, .ref a)]) hx hb dX4_reckon_189 hl (k := 0) rfl (nI_1 y1) (by decide) rfl (fun ls hl => ?_)
                      refine lv_goto (tgt := 135) hx hb dX4_reckon_192 (by decide) ?_
                      have eg61 : (up2 (fwB (fwA (fwK (smB (idB N) sx sy mS) N k1) N k1 x1) k1 x1 y1) x1 y1 ((fwB (fwA (fwK (smB (idB N) sx sy mS) N k1) N k1 x1) k1 x1 y1) x1 y1 || ((fwB (fwA (fwK (smB (idB N) sx sy mS) N k1) N k1 x1) k1 x1 y1) x1 k1 && (fwB (fwA (fwK (smB (idB N) sx sy mS) N k1) N k1 x1) k1 x1 y1) k1 y1)) : Nat → Nat → Bool) = fwB (fwA (fwK (smB (idB N) sx sy mS) N k1) N k1 x1) k1 x1 (y1 + 1) := rfl
                      rw [eg61] at hR
                      exact ih135 (y1 + 1)  (by omega) (by omega)  _ _ hS hR  _ (lv_sub hl [0, 1, 2, 3] rfl)
        · refine lv_aload_n hx hb dX4_reckon_72 rfl (lv_at hl 2 rfl) ?_
          refine lv_iload_n hx hb dX4_reckon_73 rfl (lv_at hl 0 rfl) ?_
          refine fa_aald 2 hx hb hK rfl rfl (old_at hS hsm.1 hnsm) rfl (by omega) (by omega) dX4_reckon_74 ?_
          refine lv_astore (lv' := [(4, .ref (rsm t)), (3, .int (nI t)), (2, .int (nI mS)), (1, .ref sm), (0, .ref a)]) hx hb dX4_reckon_75 hl (by decide) rfl (fun ls hl => ?_)
          obtain ⟨hx1, hx2, -⟩ := hs.1 t (by omega)
          refine lv_aload_n hx hb dX4_reckon_77 rfl (lv_at hl 4 rfl) ?_
          refine fa_get (D := D) (ci := 4) (v := .ref o1) (C := RX4) (T := TX4) (N := 7) hx hb hts hinX4 hown hK hR.1 rfl 5 (by decide) (hts (.fieldLink RX4 31 "CairnShellsLaw$Sim" "same" "[[Z") (by decide +kernel)) (fun _ h9 => h9) rfl dX4_reckon_78 ?_
          refine lv_aload hx hb dX4_reckon_81 (lv_at hl 0 rfl) ?_
          refine lv_iconst (v := 0) hx hb dX4_reckon_83 (by decide) ?_
          refine fa_iald (D := D) (j := 0) hx hb hK (old_at hS (hsm.2 t (by omega)) (hnrsm t (by omega))) (by omega) (by omega) dX4_reckon_84 ?_
          refine W.eq (g2 := F0 m 85 ls [.int (nI (sx t)), .ref o1]) rfl ?_
          refine fa_aald 3 hx hb hK rfl rfl hR.2.1.1 rfl (by omega) (by omega) dX4_reckon_85 ?_
          refine lv_aload hx hb dX4_reckon_86 (lv_at hl 0 rfl) ?_
          refine lv_iconst (v := 1) hx hb dX4_reckon_88 (by decide) ?_
          refine fa_iald (D := D) (j := 1) hx hb hK (old_at hS (hsm.2 t (by omega)) (hnrsm t (by omega))) (by omega) (by omega) dX4_reckon_89 ?_
          refine W.eq (g2 := F0 m 90 ls [.int (nI (sy t)), .ref (r1 (sx t))]) rfl ?_
          refine lv_iconst (v := 1) hx hb dX4_reckon_90 (by decide) ?_
          refine rk_st1 (b := true) (i := (sx t)) (j := sy t) hx hb hK hd hR hS (by omega) (by omega) (by omega) dX4_reckon_91 (fun H62 locs hS hR => ?_)
          refine lv_aload_n hx hb dX4_reckon_92 rfl (lv_at hl 4 rfl) ?_
          refine fa_get (D := D) (ci := 4) (v := .ref o1) (C := RX4) (T := TX4) (N := 7) hx hb hts hinX4 hown hK hR.1 rfl 5 (by decide) (hts (.fieldLink RX4 31 "CairnShellsLaw$Sim" "same" "[[Z") (by decide +kernel)) (fun _ h9 => h9) rfl dX4_reckon_93 ?_
          refine lv_aload hx hb dX4_reckon_96 (lv_at hl 0 rfl) ?_
          refine lv_iconst (v := 1) hx hb dX4_reckon_98 (by decide) ?_
          refine fa_iald (D := D) (j := 1) hx hb hK (old_at hS (hsm.2 t (by omega)) (hnrsm t (by omega))) (by omega) (by omega) dX4_reckon_99 ?_
          refine W.eq (g2 := F0 m 100 ls [.int (nI (sy t)), .ref o1]) rfl ?_
          refine fa_aald 3 hx hb hK rfl rfl hR.2.1.1 rfl (by omega) (by omega) dX4_reckon_100 ?_
          refine lv_aload hx hb dX4_reckon_101 (lv_at hl 0 rfl) ?_
          refine lv_iconst (v := 0) hx hb dX4_reckon_103 (by decide) ?_
          refine fa_iald (D := D) (j := 0) hx hb hK (old_at hS (hsm.2 t (by omega)) (hnrsm t (by omega))) (by omega) (by omega) dX4_reckon_104 ?_
          refine W.eq (g2 := F0 m 105 ls [.int (nI (sx t)), .ref (r1 (sy t))]) rfl ?_
          refine lv_iconst (v := 1) hx hb dX4_reckon_105 (by decide) ?_
          refine rk_st1 (b := true) (i := (sy t)) (j := sx t) hx hb hK hd hR hS (by omega) (by omega) (by omega) dX4_reckon_106 (fun H63 locs hS hR => ?_)
          refine lv_iinc (v := nI (t + 1)) (x := nI t) (lv' := [(3, .int (nI (t + 1))), (4, .ref (rsm t)), (2, .int (nI mS)), (1, .ref sm), (0, .ref a)]) hx hb dX4_reckon_107 hl (k := 1) rfl (nI_1 t) (by decide) rfl (fun ls hl => ?_)
          refine lv_goto (tgt := 67) hx hb dX4_reckon_110 (by decide) ?_
          have eg64 : (up2 (up2 (smB (idB N) sx sy t) (sx t) (sy t) true) (sy t) (sx t) true : Nat → Nat → Bool) = smB (idB N) sx sy (t + 1) := rfl
          rw [eg64] at hR
          exact ih67 (t + 1)  (by omega) (by omega)  _ _ hS hR  _ (lv_sub hl [0, 2, 3, 4] rfl)
    · refine lv_aload_n hx hb dX4_reckon_42 rfl (lv_at hl 1 rfl) ?_
      refine fa_get (D := D) (ci := 4) (v := .ref o1) (C := RX4) (T := TX4) (N := 7) hx hb hts hinX4 hown hK hR.1 rfl 5 (by decide) (hts (.fieldLink RX4 31 "CairnShellsLaw$Sim" "same" "[[Z") (by decide +kernel)) (fun _ h9 => h9) rfl dX4_reckon_43 ?_
      refine lv_iload_n hx hb dX4_reckon_46 rfl (lv_at hl 0 rfl) ?_
      refine fa_aald 3 hx hb hK rfl rfl hR.2.1.1 rfl (by omega) (by omega) dX4_reckon_47 ?_
      refine lv_iload_n hx hb dX4_reckon_48 rfl (lv_at hl 0 rfl) ?_
      refine lv_iconst (v := 1) hx hb dX4_reckon_49 (by decide) ?_
      refine rk_st1 (b := true) (i := i) (j := i) hx hb hK hd hR hS (by omega) (by omega) (by omega) dX4_reckon_50 (fun H65 locs hS hR => ?_)
      refine lv_iinc (v := nI (i + 1)) (x := nI i) (lv' := [(1, .int (nI (i + 1))), (0, .ref a)]) hx hb dX4_reckon_51 hl (k := 0) rfl (nI_1 i) (by decide) rfl (fun ls hl => ?_)
      refine lv_goto (tgt := 34) hx hb dX4_reckon_54 (by decide) ?_
      have eg66 : (up2 (idB i) i i true : Nat → Nat → Bool) = idB (i + 1) := rfl
      rw [eg66] at hR
      exact ih34 (i + 1)  (by omega) (by omega)  _ _ hS hR  _ (lv_sub hl [0, 1] rfl)
