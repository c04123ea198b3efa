set_option maxHeartbeats 4000000 in
set_option maxRecDepth 100000 in
theorem c_X4_more (l : Launch) {D : va_G} {cA : ClassId} {H0 : Heap} {o v u : Nat} {r : Nat → Nat} {x9 : vp_A} (hm : u ≤ 200) (ho : AT D o (.inl (D.1 11, u, .inr (.inr (.inr (.inr (fun i => some (r i))))))) H0) (hrow : ∀ i, i < u → ∃ x : vp_A, AT D (r i) (.inl (cA, x)) H0) (hv : AT D v (.inl (cA, x9)) H0) : LQ l yX4_more wsX4_more 0 0 1 201 [.ref o, .ref v] D cA H0 (fun q => H0.size ≤ q) (fun w H1 => ∃ q, w = some (.ref q) ∧ H0.size ≤ q ∧ AT D q (.inl (D.1 11, u + 1, .inr (.inr (.inr (.inr (fun i => some (ap1 r u v i))))))) H1) := by
  refine LQ_of (cc := cX4_more) (maxL := 4) (ret := (some (.array (.array .int)))) (by decide) rfl (Nat.le_of_ble_eq_true rfl) ?_
  intro p e s m below meth c ls hx hb hml hr hown hts hlk hH hK hl
  have hown : s.vm.findClass RX4 = some m.cls := hown
  have hl : lv_has ls 4 [(0, .ref o), (1, .ref v)] := hl
  have hS : va_S (fun q => H0.size ≤ q) H0 H0 [] := va_S.rf
  have hE : EX H0 H0 := KP.rf
  have hP : va_P D vwCl [] H0 := fun k q h => by simp at h
  have hD : va_D (fun q => H0.size ≤ q) [] := ⟨fun i j p q h => by simp at h, fun k q h => by simp at h⟩
  have hAz : ∀ (H : Heap) {q : Nat}, EX H0 H → q = H.size → (fun q => H0.size ≤ q) q := fun H q a b => by rw [b]; exact (by first | exact a.1 | exact Or.inr a.1 | exact Nat.le_trans hS0 a.1)
  refine lv_aload_n hx hb dX4_more_0 rfl (lv_at hl 0 rfl) ?_
  refine fa_alen 2 hx hb hK rfl ho dX4_more_1 ?_
  refine W.eq (g2 := F0 m 2 ls [.int (nI u)]) rfl ?_
  refine lv_iconst (v := 1) hx hb dX4_more_2 (by decide) ?_
  refine my_iaddN (x := u) (y := 1) hx hb dX4_more_3 ?_
  refine fa_newA (D := D) (N' := u + 1) hx hb hown (hts (.classLink RX4 7 "[I") (by decide +kernel)) hK hS (by omega) (by show _ ≤ 1; omega) (by show _ ≤ 201; omega) dX4_more_4 (fun q1 H2 hq9 hq3 hE9 hS => ?_)
  obtain ⟨hP, hD⟩ := li_push hP hD hq9 hq3 hE9 (hAz H0 hE hq3)
  have hP : va_P D vwCl [(q1, .inl (D.1 11, u + 1, .inr (.inr (.inr (.inr (fun _ => none))))))] H2 := hP
  have hD : va_D (fun q => H0.size ≤ q) [(q1, .inl (D.1 11, u + 1, .inr (.inr (.inr (.inr (fun _ => none))))))] := hD
  have hfq1 : H0.size ≤ q1 := by rw [hq3]; exact hE.1
  have hE := KP.trans hE hE9
  refine lv_astore_n (lv' := [(2, .ref q1), (0, .ref o), (1, .ref v)]) hx hb dX4_more_7 rfl hl (by decide) rfl (fun ls hl => ?_)
  refine lv_iconst (v := 0) hx hb dX4_more_8 (by decide) ?_
  refine lv_istore_n (lv' := [(3, .int 0), (2, .ref q1), (0, .ref o), (1, .ref v)]) hx hb dX4_more_9 rfl hl (by decide) rfl (fun ls hl => ?_)
  have ew4 : ((fun _ => none) : Nat → Option Nat) = cpq r 0 := cpq_0
  have hD : va_D (fun q => H0.size ≤ q) [(q1, .inl (D.1 11, u + 1, .inr (.inr (.inr (.inr (cpq r 0))))))] := by rw [← ew4]; exact hD.sub [0] (by decide) rfl
  have hP : va_P D vwCl [(q1, .inl (D.1 11, u + 1, .inr (.inr (.inr (.inr (cpq r 0))))))] H2 := by rw [← ew4]; exact hP.sub [0] rfl
  suffices lp10 : ∀ (n k : Nat), k ≤ u → u < k + n → ∀ (H5 : Heap) (locs : List Loc), va_P D vwCl [(q1, .inl (D.1 11, u + 1, .inr (.inr (.inr (.inr (cpq r k))))))] H5 → va_D (fun q => H0.size ≤ q) [(q1, .inl (D.1 11, u + 1, .inr (.inr (.inr (.inr (cpq r k))))))] → va_S (fun q => H0.size ≤ q) H0 H5 locs → EX H0 H5 → ∀ ls, lv_has ls 4 [(3, .int (nI k)), (2, .ref q1), (0, .ref o), (1, .ref v)] → W p l e { frames := 0, cells := 1, slots := 201, locals := 0 } s m ([.ref o, .ref v] : List Value).toArray below meth c H5 locs (0 + 1) (0 + (u + 1)) (MQ below (lqQ (fun w H1 => ∃ q, w = some (.ref q) ∧ H0.size ≤ q ∧ AT D q (.inl (D.1 11, u + 1, .inr (.inr (.inr (.inr (fun i => some (ap1 r u v i))))))) H1) (fun q => H0.size ≤ q) H0) ([.ref o, .ref v] : List Value).toArray s 1 201 (fun q => H0.size ≤ q)) (F0 m 10 ls []) from lp10 (u + 1) 0  (by omega) (by omega)  _ _ hP hD hS hE  _ (lv_sub hl [0, 1, 2, 3] rfl)
  intro n
  induction n with
  | zero => intro k  hk1 hk2; exact absurd hk2 (by omega)
  | succ n ih10 =>
    intro k  hk10 hn10   H5 locs hP hD hS hE  ls hl
    refine lv_iload_n hx hb dX4_more_10 rfl (lv_at hl 0 rfl) ?_
    refine lv_aload_n hx hb dX4_more_11 rfl (lv_at hl 2 rfl) ?_
    refine fa_alen 2 hx hb hK rfl (EX.at hE ho) dX4_more_12 ?_
    refine W.eq (g2 := F0 m 13 ls [.int (nI u), .int (nI k)]) rfl ?_
    refine my_geN (x := k) (y := u) (tgt := 28) hx hb dX4_more_13 (by decide) (by omega) (by omega) (fun h6 => ?_) (fun h6 => ?_)
    · obtain rfl : u = k := by omega
      refine lv_aload_n hx hb dX4_more_28 rfl (lv_at hl 1 rfl) ?_
      refine lv_aload_n hx hb dX4_more_29 rfl (lv_at hl 2 rfl) ?_
      refine fa_alen 2 hx hb hK rfl (EX.at hE ho) dX4_more_30 ?_
      refine W.eq (g2 := F0 m 31 ls [.int (nI u), .ref q1]) rfl ?_
      refine lv_aload_n hx hb dX4_more_31 rfl (lv_at hl 3 rfl) ?_
      refine li_aast (D := D) (j := u) hx hb hK hP hD hS 0 rfl (EX.at hE hv) (by omega) (by omega) dX4_more_32 (fun H7 locs hP hD hS ho9 => ?_)
      have hP : va_P D vwCl [(q1, .inl (D.1 11, u + 1, .inr (.inr (.inr (.inr (va_up (cpq r u) u (some v)))))))] H7 := hP
      have hD : va_D (fun q => H0.size ≤ q) [(q1, .inl (D.1 11, u + 1, .inr (.inr (.inr (.inr (va_up (cpq r u) u (some v)))))))] := hD
      have hE := ho9.ex hE hfq1
      refine lv_aload_n hx hb dX4_more_33 rfl (lv_at hl 1 rfl) ?_
      exact LQ_aret hx hb hr (by first | exact Or.inl ⟨_, rfl⟩ | exact Or.inr ⟨_, rfl⟩) hlk dX4_more_34 (by omega) (by omega) ⟨q1, rfl, hfq1, at_congq (hP 0 _ rfl) (fun i hi => cpq_e hi)⟩ hS
    · refine lv_aload_n hx hb dX4_more_16 rfl (lv_at hl 1 rfl) ?_
      refine lv_iload_n hx hb dX4_more_17 rfl (lv_at hl 0 rfl) ?_
      refine lv_aload_n hx hb dX4_more_18 rfl (lv_at hl 2 rfl) ?_
      refine lv_iload_n hx hb dX4_more_19 rfl (lv_at hl 0 rfl) ?_
      refine fa_aald 2 hx hb hK rfl rfl (EX.at hE ho) rfl (by omega) (by omega) dX4_more_20 ?_
      obtain ⟨x8, hx8⟩ := hrow k (by omega)
      refine li_aast (D := D) (j := k) hx hb hK hP hD hS 0 rfl (EX.at hE hx8) (by omega) (by omega) dX4_more_21 (fun H8 locs hP hD hS ho9 => ?_)
      have hP : va_P D vwCl [(q1, .inl (D.1 11, u + 1, .inr (.inr (.inr (.inr (va_up (cpq r k) k (some (r k))))))))] H8 := hP
      have hD : va_D (fun q => H0.size ≤ q) [(q1, .inl (D.1 11, u + 1, .inr (.inr (.inr (.inr (va_up (cpq r k) k (some (r k))))))))] := hD
      have hE := ho9.ex hE hfq1
      refine lv_iinc (v := nI (k + 1)) (x := nI k) (lv' := [(3, .int (nI (k + 1))), (2, .ref q1), (0, .ref o), (1, .ref v)]) hx hb dX4_more_22 hl (k := 0) rfl (nI_1 k) (by decide) rfl (fun ls hl => ?_)
      refine lv_goto (tgt := 10) hx hb dX4_more_25 (by decide) ?_
      have ew9 : (va_up (cpq r k) k (some (r k)) : Nat → Option Nat) = cpq r (k + 1) := cpq_s
      have hD : va_D (fun q => H0.size ≤ q) [(q1, .inl (D.1 11, u + 1, .inr (.inr (.inr (.inr (cpq r (k + 1)))))))] := by rw [← ew9]; exact hD.sub [0] (by decide) rfl
      have hP : va_P D vwCl [(q1, .inl (D.1 11, u + 1, .inr (.inr (.inr (.inr (cpq r (k + 1)))))))] H8 := by rw [← ew9]; exact hP.sub [0] rfl
      exact ih10 (k + 1)  (by omega) (by omega)  _ _ hP hD hS hE  _ (lv_sub hl [0, 1, 2, 3] rfl)
