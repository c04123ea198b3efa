theorem cpq_x {r : Nat → Nat} {k q : Nat} (j : Nat) : va_up (cpq r k) k (some q) j = cpq (ap1 r k q) (k + 1) j := by
  unfold va_up cpq ap1
  by_cases h : j = k
  · rw [if_pos h, if_pos (by omega), if_pos h]
  · rw [if_neg h, if_neg h]
    by_cases h2 : j < k
    · rw [if_pos h2, if_pos (by omega)]
    · rw [if_neg h2, if_neg (by omega)]
set_option maxHeartbeats 4000000 in
set_option maxRecDepth 100000 in
theorem c_X4_init (l : Launch) {D : va_G} {cA : ClassId} {H0 : Heap} {a : Nat} (hA0 : AT D a (.inr (4, [.int 0, .null, .null, .null, .null, .null, .null])) H0) : LQ l yX4_init wsX4_init 1 20 40 140 [.ref a] D cA H0 (fun q => q = a ∨ H0.size ≤ q) (inP D cA H0 a) := by
  refine LQ_of (cc := cX4_init) (maxL := 2) (ret := none) (by decide) rfl (Nat.le_of_ble_eq_true rfl) ?_
  intro p e s m below meth c ls hx hb hml hr hown hts hlk hH hK hl
  have hown : s.vm.findClass RX4 = some m.cls := hown
  have hl : lv_has ls 2 [(0, .ref a)] := hl
  have hinX4 : ∀ w ∈ wsX40, w ∈ wsX4_init := fun w h9 => List.mem_cons_of_mem _ (List.mem_append_right _ h9)
  have hS : va_S (fun q => q = a ∨ H0.size ≤ q) H0 H0 [] := va_S.rf
  have hE : EX H0 H0 := KP.rf
  have hP : va_P D vwCl [] H0 := fun k q h => by simp at h
  have hD : va_D (fun q => q = a ∨ H0.size ≤ q) [] := ⟨fun i j p q h => by simp at h, fun k q h => by simp at h⟩
  have haz := hA0.lt
  refine lv_aload_n hx hb dX4_init_0 rfl (lv_at hl 0 rfl) ?_
  refine W.objInit hx hb hown (hts (.methodLink RX4 1 objectInit) (by decide +kernel)) (hts (.instanceMethod objectInit) (by decide +kernel)) (hts (.code objectInit ⟨#[0xb1]⟩ 1 none) (by decide +kernel)) rfl (by rw [hml]; exact hl.1) rfl dX4_init_1 (Nat.le_of_ble_eq_true rfl) (Nat.le_of_ble_eq_true rfl) ?_
  refine W.eq (g2 := F0 m 4 ls []) rfl ?_
  have hzz : H0.size ≤ H0.size := Nat.le_refl _
  have hzhA0 := haz
  refine lv_aload_n hx hb dX4_init_4 rfl (lv_at hl 0 rfl) ?_
  refine lv_iconst (v := 0) hx hb dX4_init_5 (by decide) ?_
  refine fa_newA (D := D) (N' := 0) hx hb hown (hts (.classLink RX4 7 "[I") (by decide +kernel)) hK hS (by omega) (by show _ ≤ 40; omega) (by show _ ≤ 140; omega) dX4_init_6 (fun ab H1 hab eab hE9 hS => ?_)
  have hA0 : AT D a (.inr (4, [.int 0, .null, .null, .null, .null, .null, .null])) H1 := EX.at hE9 (hA0)
  have hzhab : H0.size ≤ ab := by rw [eab]; exact hzz
  have hzz := Nat.le_trans hzz hE9.1
  refine fa_put (D := D) (ci := 4) (v := .ref ab) (ty := .array (.array .int)) (C := RX4) (T := TX4) (N := 7) hx hb hts hinX4 tyX4 tyX4_ok nmX4 hown hK hA0 hS (Or.inl rfl) rfl 1 (by decide) (hts (.fieldLink RX4 9 "CairnShellsLaw$Sim" "aboves" "[[I") (by decide +kernel)) (fun _ h9 => h9) rfl (by decide +kernel) rfl rfl (Nat.le_of_ble_eq_true rfl) dX4_init_9 (fun H2 locs hA0 ho9 hS => ?_)
  have hA0 : AT D a (.inr (4, [.int 0, .ref ab, .null, .null, .null, .null, .null])) H2 := hA0
  have hab : AT D ab (.inl (D.1 11, 0, .inr (.inr (.inr (.inr (fun _ => none)))))) H2 := ho9.at (hab) (fun q => by have h7 := hzhab; omega)
  have hzz := Nat.le_trans hzz (Nat.le_of_eq ho9.1.symm)
  refine lv_aload_n hx hb dX4_init_12 rfl (lv_at hl 0 rfl) ?_
  refine lv_iconst (v := 0) hx hb dX4_init_13 (by decide) ?_
  refine fa_newA (D := D) (N' := 0) hx hb hown (hts (.classLink RX4 7 "[I") (by decide +kernel)) hK hS (by omega) (by show _ ≤ 40; omega) (by show _ ≤ 140; omega) dX4_init_14 (fun sm H3 hsm esm hE9 hS => ?_)
  have habsm : ab < sm := by rw [esm]; exact AT.lt hab
  have hA0 : AT D a (.inr (4, [.int 0, .ref ab, .null, .null, .null, .null, .null])) H3 := EX.at hE9 (hA0)
  have hab : AT D ab (.inl (D.1 11, 0, .inr (.inr (.inr (.inr (fun _ => none)))))) H3 := EX.at hE9 (hab)
  have hzhsm : H0.size ≤ sm := by rw [esm]; exact hzz
  have hzz := Nat.le_trans hzz hE9.1
  refine fa_put (D := D) (ci := 4) (v := .ref sm) (ty := .array (.array .int)) (C := RX4) (T := TX4) (N := 7) hx hb hts hinX4 tyX4 tyX4_ok nmX4 hown hK hA0 hS (Or.inl rfl) rfl 2 (by decide) (hts (.fieldLink RX4 15 "CairnShellsLaw$Sim" "sames" "[[I") (by decide +kernel)) (fun _ h9 => h9) rfl (by decide +kernel) rfl rfl (Nat.le_of_ble_eq_true rfl) dX4_init_17 (fun H4 locs hA0 ho9 hS => ?_)
  have hA0 : AT D a (.inr (4, [.int 0, .ref ab, .ref sm, .null, .null, .null, .null])) H4 := hA0
  have hab : AT D ab (.inl (D.1 11, 0, .inr (.inr (.inr (.inr (fun _ => none)))))) H4 := ho9.at (hab) (fun q => by have h7 := hzhab; omega)
  have hsm : AT D sm (.inl (D.1 11, 0, .inr (.inr (.inr (.inr (fun _ => none)))))) H4 := ho9.at (hsm) (fun q => by have h7 := hzhsm; omega)
  have hzz := Nat.le_trans hzz (Nat.le_of_eq ho9.1.symm)
  refine lv_aload_n hx hb dX4_init_20 rfl (lv_at hl 0 rfl) ?_
  refine lv_bipush (v := 14) hx hb dX4_init_21 (by decide) ?_
  refine lv_iconst (v := 4) hx hb dX4_init_23 (by decide) ?_
  refine fa_mna (D := D) (ty := .int) (cO := D.1 11) (cR := cA) (N' := 14) (K' := 4) hx hb hown (hts (.classLink RX4 18 "[[I") (by decide +kernel)) (hts (.arrayClass .int) (by decide +kernel)) hK.2.2.2.2.2.2.2.1 (hK.all.2 2 _ rfl).2 (hK.all.2 0 _ rfl).2 rfl (by decide) rfl hS (by omega) (by omega) (by show _ ≤ 40; omega) (by show _ ≤ 140; omega) dX4_init_24 (fun fi rfi H5 hfi hrfi hirfi hnrfi hlfi hlrfi hE9 hS => ?_)
  have hsmfi : sm < fi := Nat.lt_of_lt_of_le (AT.lt hsm) hlfi
  have hsmrf : ∀ i, i < 14 → sm < rfi i := fun i _ => Nat.lt_of_lt_of_le (AT.lt hsm) (hlrfi i)
  have hA0 : AT D a (.inr (4, [.int 0, .ref ab, .ref sm, .null, .null, .null, .null])) H5 := EX.at hE9 (hA0)
  have hab : AT D ab (.inl (D.1 11, 0, .inr (.inr (.inr (.inr (fun _ => none)))))) H5 := EX.at hE9 (hab)
  have hsm : AT D sm (.inl (D.1 11, 0, .inr (.inr (.inr (.inr (fun _ => none)))))) H5 := EX.at hE9 (hsm)
  have hzhfi : H0.size ≤ fi := Nat.le_trans hzz hlfi
  have hzhrfi : ∀ i, i < 14 → H0.size ≤ rfi i := fun i _ => Nat.le_trans hzz (hlrfi i)
  have hzz := Nat.le_trans hzz hE9.1
  refine fa_put (D := D) (ci := 4) (v := .ref fi) (ty := .array (.array .int)) (C := RX4) (T := TX4) (N := 7) hx hb hts hinX4 tyX4 tyX4_ok nmX4 hown hK hA0 hS (Or.inl rfl) rfl 3 (by decide) (hts (.fieldLink RX4 19 "CairnShellsLaw$Sim" "finds" "[[I") (by decide +kernel)) (fun _ h9 => h9) rfl (by decide +kernel) rfl rfl (Nat.le_of_ble_eq_true rfl) dX4_init_28 (fun H6 locs hA0 ho9 hS => ?_)
  have hA0 : AT D a (.inr (4, [.int 0, .ref ab, .ref sm, .ref fi, .null, .null, .null])) H6 := hA0
  have hab : AT D ab (.inl (D.1 11, 0, .inr (.inr (.inr (.inr (fun _ => none)))))) H6 := ho9.at (hab) (fun q => by have h7 := hzhab; omega)
  have hsm : AT D sm (.inl (D.1 11, 0, .inr (.inr (.inr (.inr (fun _ => none)))))) H6 := ho9.at (hsm) (fun q => by have h7 := hzhsm; omega)
  have hfi : AT D fi (.inl (D.1 11, 14, .inr (.inr (.inr (.inr (fun i => some (rfi i))))))) H6 := ho9.at (hfi) (fun q => by have h7 := hzhfi; omega)
  have hrfi : ∀ i, i < 14 → AT D (rfi i) (.inl (cA, 4, .inl (fun _ => 0))) H6 := fun i hi => ho9.at (hrfi i hi) (fun q => by have h7 := (hzhrfi i hi); omega)
  have hzz := Nat.le_trans hzz (Nat.le_of_eq ho9.1.symm)
  refine lv_aload_n hx hb dX4_init_31 rfl (lv_at hl 0 rfl) ?_
  refine lv_bipush (v := 14) hx hb dX4_init_32 (by decide) ?_
  refine fa_newA (D := D) (N' := 14) hx hb hown (hts (.classLink RX4 7 "[I") (by decide +kernel)) hK hS (by omega) (by show _ ≤ 40; omega) (by show _ ≤ 140; omega) dX4_init_34 (fun he H7 hhe ehe hE9 hS => ?_)
  have hfihe : fi < he := by rw [ehe]; exact AT.lt hfi
  have hrfhe : ∀ i, i < 14 → rfi i < he := fun i hi => by rw [ehe]; exact AT.lt (hrfi i hi)
  have hA0 : AT D a (.inr (4, [.int 0, .ref ab, .ref sm, .ref fi, .null, .null, .null])) H7 := EX.at hE9 (hA0)
  have hab : AT D ab (.inl (D.1 11, 0, .inr (.inr (.inr (.inr (fun _ => none)))))) H7 := EX.at hE9 (hab)
  have hsm : AT D sm (.inl (D.1 11, 0, .inr (.inr (.inr (.inr (fun _ => none)))))) H7 := EX.at hE9 (hsm)
  have hfi : AT D fi (.inl (D.1 11, 14, .inr (.inr (.inr (.inr (fun i => some (rfi i))))))) H7 := EX.at hE9 (hfi)
  have hrfi : ∀ i, i < 14 → AT D (rfi i) (.inl (cA, 4, .inl (fun _ => 0))) H7 := fun i hi => EX.at hE9 (hrfi i hi)
  have hzhhe : H0.size ≤ he := by rw [ehe]; exact hzz
  have hzz := Nat.le_trans hzz hE9.1
  refine fa_put (D := D) (ci := 4) (v := .ref he) (ty := .array (.array .int)) (C := RX4) (T := TX4) (N := 7) hx hb hts hinX4 tyX4 tyX4_ok nmX4 hown hK hA0 hS (Or.inl rfl) rfl 4 (by decide) (hts (.fieldLink RX4 22 "CairnShellsLaw$Sim" "hearths" "[[I") (by decide +kernel)) (fun _ h9 => h9) rfl (by decide +kernel) rfl rfl (Nat.le_of_ble_eq_true rfl) dX4_init_37 (fun H8 locs hA0 ho9 hS => ?_)
  have hA0 : AT D a (.inr (4, [.int 0, .ref ab, .ref sm, .ref fi, .ref he, .null, .null])) H8 := hA0
  have hab : AT D ab (.inl (D.1 11, 0, .inr (.inr (.inr (.inr (fun _ => none)))))) H8 := ho9.at (hab) (fun q => by have h7 := hzhab; omega)
  have hsm : AT D sm (.inl (D.1 11, 0, .inr (.inr (.inr (.inr (fun _ => none)))))) H8 := ho9.at (hsm) (fun q => by have h7 := hzhsm; omega)
  have hfi : AT D fi (.inl (D.1 11, 14, .inr (.inr (.inr (.inr (fun i => some (rfi i))))))) H8 := ho9.at (hfi) (fun q => by have h7 := hzhfi; omega)
  have hrfi : ∀ i, i < 14 → AT D (rfi i) (.inl (cA, 4, .inl (fun _ => 0))) H8 := fun i hi => ho9.at (hrfi i hi) (fun q => by have h7 := (hzhrfi i hi); omega)
  have hhe : AT D he (.inl (D.1 11, 14, .inr (.inr (.inr (.inr (fun _ => none)))))) H8 := ho9.at (hhe) (fun q => by have h7 := hzhhe; omega)
  have hzz := Nat.le_trans hzz (Nat.le_of_eq ho9.1.symm)
  refine lv_iconst (v := 0) hx hb dX4_init_40 (by decide) ?_
  refine lv_istore_n (lv' := [(1, .int 0), (0, .ref a)]) hx hb dX4_init_41 rfl hl (by decide) rfl (fun ls hl => ?_)
  have hhe : AT D he (.inl (D.1 11, 14, .inr (.inr (.inr (.inr (cpq (fun _ => 0) 0)))))) H8 := by rw [← cpq_0]; exact hhe
  refine W.widen (k := 20) (n := 100) (by omega) (by omega) ?_
  suffices lp : ∀ (n k : Nat) (rhe : Nat → Nat), k ≤ 14 → 14 < k + n → (∀ i, i < k → he < rhe i) → ∀ (H : Heap) (locs : List Loc), H0.size ≤ H.size → va_S (fun q => q = a ∨ H0.size ≤ q) H0 H locs → (AT D a (.inr (4, [.int 0, .ref ab, .ref sm, .ref fi, .ref he, .null, .null])) H) → (AT D ab (.inl (D.1 11, 0, .inr (.inr (.inr (.inr (fun _ => none)))))) H) → (AT D sm (.inl (D.1 11, 0, .inr (.inr (.inr (.inr (fun _ => none)))))) H) → (AT D fi (.inl (D.1 11, 14, .inr (.inr (.inr (.inr (fun i => some (rfi i))))))) H) → (∀ i, i < 14 → AT D (rfi i) (.inl (cA, 4, .inl (fun _ => 0))) H) → (AT D he (.inl (D.1 11, 14, .inr (.inr (.inr (.inr (cpq rhe k)))))) H) → (∀ i, i < k → AT D (rhe i) (.inl (cA, 2, .inl (fun _ => -1))) H) → ∀ ls, lv_has ls 2 [(1, .int (nI k)), (0, .ref a)] → W p l e { frames := 1, cells := 40, slots := 140, locals := 20 } s m ([.ref a] : List Value).toArray below meth c H locs (20 + k) (100 + k * 2) (MQ below (lqQ (inP D cA H0 a) (fun q => q = a ∨ H0.size ≤ q) H0) ([.ref a] : List Value).toArray s 40 140 (fun q => q = a ∨ H0.size ≤ q)) (F0 m 42 ls []) from lp 15 0 (fun _ => 0) (by omega) (by omega) (fun i hi => absurd hi (Nat.not_lt_zero i)) _ _ hzz hS hA0 hab hsm hfi hrfi hhe (fun i hi => absurd hi (Nat.not_lt_zero i)) _ hl
  intro n
  induction n with
  | zero => intro k rhe hk1 hk2; exact absurd hk2 (by omega)
  | succ n ih =>
    intro k rhe hk hn hgt H locs hzz hS hA0 hab hsm hfi hrfi hhe hrhe ls hl
    refine lv_iload_n hx hb dX4_init_42 rfl (lv_at hl 0 rfl) ?_
    refine lv_bipush (v := 14) hx hb dX4_init_43 (by decide) ?_
    refine my_geN (x := k) (y := 14) (tgt := 71) hx hb dX4_init_45 (by decide) (by omega) (by omega) (fun h1 => ?_) (fun h1 => ?_)
    · obtain rfl : k = 14 := by omega
      exact LQ_vret hx hb hr hlk dX4_init_71 (by omega) (by omega) ⟨rfl, ab, sm, fi, he, rfi, rhe, hA0, fun r M => ⟨at_congq hab (fun j hj => absurd hj (Nat.not_lt_zero j)), fun i hi => absurd hi (Nat.not_lt_zero i)⟩, fun r M => ⟨at_congq hsm (fun j hj => absurd hj (Nat.not_lt_zero j)), fun i hi => absurd hi (Nat.not_lt_zero i)⟩, ⟨hfi, hrfi⟩, ⟨at_congq hhe (fun j hj => if_pos hj), hrhe⟩, ⟨hzhab, habsm, hsmfi, hfihe⟩, fun i hi => ⟨hsmrf i hi, hnrfi i, hrfhe i hi⟩, fun i j _ _ => hirfi i j, hgt⟩ hS
    · refine lv_aload_n hx hb dX4_init_48 rfl (lv_at hl 1 rfl) ?_
      refine fa_get (D := D) (ci := 4) (v := .ref he) (C := RX4) (T := TX4) (N := 7) hx hb hts hinX4 hown hK hA0 rfl 4 (by decide) (hts (.fieldLink RX4 22 "CairnShellsLaw$Sim" "hearths" "[[I") (by decide +kernel)) (fun _ h9 => h9) rfl dX4_init_49 ?_
      refine lv_iload_n hx hb dX4_init_52 rfl (lv_at hl 0 rfl) ?_
      refine lv_iconst (v := 2) hx hb dX4_init_53 (by decide) ?_
      refine fa_newI (D := D) (N' := 2) hx hb (hts (.arrayClass .int) (by decide +kernel)) hK hS (by omega) (by show _ ≤ 40; omega) (by show _ ≤ 140; omega) dX4_init_54 (fun q H2 hq eq9 hE9 hS => ?_)
      have hqhe : he < q := by rw [eq9]; exact AT.lt hhe
      have hrlt : ∀ i, i < k → rhe i < q := fun i hi => by rw [eq9]; exact AT.lt (hrhe i hi)
      have hA0 : AT D a (.inr (4, [.int 0, .ref ab, .ref sm, .ref fi, .ref he, .null, .null])) H2 := EX.at hE9 (hA0)
      have hab : AT D ab (.inl (D.1 11, 0, .inr (.inr (.inr (.inr (fun _ => none)))))) H2 := EX.at hE9 (hab)
      have hsm : AT D sm (.inl (D.1 11, 0, .inr (.inr (.inr (.inr (fun _ => none)))))) H2 := EX.at hE9 (hsm)
      have hfi : AT D fi (.inl (D.1 11, 14, .inr (.inr (.inr (.inr (fun i => some (rfi i))))))) H2 := EX.at hE9 (hfi)
      have hrfi : ∀ i, i < 14 → AT D (rfi i) (.inl (cA, 4, .inl (fun _ => 0))) H2 := fun i hi => EX.at hE9 (hrfi i hi)
      have hhe : AT D he (.inl (D.1 11, 14, .inr (.inr (.inr (.inr (cpq rhe k)))))) H2 := EX.at hE9 (hhe)
      have hrhe : ∀ i, i < k → AT D (rhe i) (.inl (cA, 2, .inl (fun _ => -1))) H2 := fun i hi => EX.at hE9 (hrhe i hi)
      have hzq : H0.size ≤ q := by rw [eq9]; exact hzz
      have hzz := Nat.le_trans hzz hE9.1
      refine lv_dup hx hb dX4_init_56 rfl ?_
      refine lv_iconst (v := 0) hx hb dX4_init_57 (by decide) ?_
      refine lv_iconst (v := (-1)) hx hb dX4_init_58 (by decide) ?_
      refine fa_iast (D := D) (j := 0) hx hb hK hq hS (Or.inr hzq) (by omega) (by omega) dX4_init_59 (fun H3 locs hq ho9 hS => ?_)
      have hA0 : AT D a (.inr (4, [.int 0, .ref ab, .ref sm, .ref fi, .ref he, .null, .null])) H3 := ho9.at (hA0) (fun q9 => by omega)
      have hab : AT D ab (.inl (D.1 11, 0, .inr (.inr (.inr (.inr (fun _ => none)))))) H3 := ho9.at (hab) (fun q9 => by omega)
      have hsm : AT D sm (.inl (D.1 11, 0, .inr (.inr (.inr (.inr (fun _ => none)))))) H3 := ho9.at (hsm) (fun q9 => by omega)
      have hfi : AT D fi (.inl (D.1 11, 14, .inr (.inr (.inr (.inr (fun i => some (rfi i))))))) H3 := ho9.at (hfi) (fun q9 => by omega)
      have hrfi : ∀ i, i < 14 → AT D (rfi i) (.inl (cA, 4, .inl (fun _ => 0))) H3 := fun i hi => ho9.at (hrfi i hi) (fun q9 => by have h7 := hrfhe i hi; omega)
      have hhe : AT D he (.inl (D.1 11, 14, .inr (.inr (.inr (.inr (cpq rhe k)))))) H3 := ho9.at (hhe) (fun q9 => by omega)
      have hrhe : ∀ i, i < k → AT D (rhe i) (.inl (cA, 2, .inl (fun _ => -1))) H3 := fun i hi => ho9.at (hrhe i hi) (fun q9 => by have h7 := hrlt i hi; omega)
      have hzz := Nat.le_trans hzz (Nat.le_of_eq ho9.1.symm)
      refine lv_dup hx hb dX4_init_60 rfl ?_
      refine lv_iconst (v := 1) hx hb dX4_init_61 (by decide) ?_
      refine lv_iconst (v := (-1)) hx hb dX4_init_62 (by decide) ?_
      refine fa_iast (D := D) (j := 1) hx hb hK hq hS (Or.inr hzq) (by omega) (by omega) dX4_init_63 (fun H4 locs hq ho9 hS => ?_)
      have hA0 : AT D a (.inr (4, [.int 0, .ref ab, .ref sm, .ref fi, .ref he, .null, .null])) H4 := ho9.at (hA0) (fun q9 => by omega)
      have hab : AT D ab (.inl (D.1 11, 0, .inr (.inr (.inr (.inr (fun _ => none)))))) H4 := ho9.at (hab) (fun q9 => by omega)
      have hsm : AT D sm (.inl (D.1 11, 0, .inr (.inr (.inr (.inr (fun _ => none)))))) H4 := ho9.at (hsm) (fun q9 => by omega)
      have hfi : AT D fi (.inl (D.1 11, 14, .inr (.inr (.inr (.inr (fun i => some (rfi i))))))) H4 := ho9.at (hfi) (fun q9 => by omega)
      have hrfi : ∀ i, i < 14 → AT D (rfi i) (.inl (cA, 4, .inl (fun _ => 0))) H4 := fun i hi => ho9.at (hrfi i hi) (fun q9 => by have h7 := hrfhe i hi; omega)
      have hhe : AT D he (.inl (D.1 11, 14, .inr (.inr (.inr (.inr (cpq rhe k)))))) H4 := ho9.at (hhe) (fun q9 => by omega)
      have hrhe : ∀ i, i < k → AT D (rhe i) (.inl (cA, 2, .inl (fun _ => -1))) H4 := fun i hi => ho9.at (hrhe i hi) (fun q9 => by have h7 := hrlt i hi; omega)
      have hzz := Nat.le_trans hzz (Nat.le_of_eq ho9.1.symm)
      refine fa_aast (D := D) (j := k) hx hb hK hhe hq hS (Or.inr hzhhe) (by omega) (by omega) dX4_init_64 (fun H5 locs hhe ho9 hS => ?_)
      have hhe : AT D he (.inl (D.1 11, 14, .inr (.inr (.inr (.inr (cpq (ap1 rhe k q) (k + 1))))))) H5 := at_congq hhe (fun j hj => cpq_x j)
      have hA0 : AT D a (.inr (4, [.int 0, .ref ab, .ref sm, .ref fi, .ref he, .null, .null])) H5 := ho9.at (hA0) (fun q9 => by omega)
      have hab : AT D ab (.inl (D.1 11, 0, .inr (.inr (.inr (.inr (fun _ => none)))))) H5 := ho9.at (hab) (fun q9 => by omega)
      have hsm : AT D sm (.inl (D.1 11, 0, .inr (.inr (.inr (.inr (fun _ => none)))))) H5 := ho9.at (hsm) (fun q9 => by omega)
      have hfi : AT D fi (.inl (D.1 11, 14, .inr (.inr (.inr (.inr (fun i => some (rfi i))))))) H5 := ho9.at (hfi) (fun q9 => by omega)
      have hrfi : ∀ i, i < 14 → AT D (rfi i) (.inl (cA, 4, .inl (fun _ => 0))) H5 := fun i hi => ho9.at (hrfi i hi) (fun q9 => by have h7 := hrfhe i hi; omega)
      have hrhe : ∀ i, i < k → AT D (rhe i) (.inl (cA, 2, .inl (fun _ => -1))) H5 := fun i hi => ho9.at (hrhe i hi) (fun q9 => by have h7 := hgt i hi; omega)
      have hq := ho9.at hq (fun q9 => by omega)
      have hzz := Nat.le_trans hzz (Nat.le_of_eq ho9.1.symm)
      have hrhe : ∀ i, i < k + 1 → AT D (ap1 rhe k q i) (.inl (cA, 2, .inl (fun _ => -1))) H5 := fun i hi => by
        unfold ap1
        by_cases e9 : i = k
        · rw [if_pos e9]; exact at_cong hq (fun j hj => by rcases (show j = 0 ∨ j = 1 by omega) with rfl | rfl <;> rfl)
        · rw [if_neg e9]; exact hrhe i (by omega)
      have hgt : ∀ i, i < k + 1 → he < ap1 rhe k q i := fun i hi => by
        unfold ap1
        by_cases e9 : i = k
        · rw [if_pos e9]; omega
        · rw [if_neg e9]; exact hgt i (by omega)
      refine lv_iinc (v := nI (k + 1)) (x := nI k) (lv' := [(1, .int (nI (k + 1))), (0, .ref a)]) hx hb dX4_init_65 hl (k := 0) rfl (nI_1 k) (by decide) rfl (fun ls hl => ?_)
      refine lv_goto (tgt := 42) hx hb dX4_init_68 (by decide) ?_
      exact W.widen (by omega) (by omega) (ih (k + 1) (ap1 rhe k q) (by omega) (by omega) hgt _ _ hzz hS hA0 hab hsm hfi hrfi hhe hrhe _ hl)
