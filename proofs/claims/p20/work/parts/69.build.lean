/-! the making of a heap of shells and its simulation -/
theorem X_kp {b L : Nat} {xs : Nat → Int32} {s : State} {H H1 : Heap} (h : va_X b L xs s H) (q : H1[b]? = H[b]?) : va_X b L xs s H1 := by
  obtain ⟨scr, h1, h2⟩ := h
  exact ⟨scr, q.trans h1, h2⟩
theorem X_S {b L S0 : Nat} {xs : Nat → Int32} {s : State} {H0 H : Heap} {locs : List Loc} (h : va_X b L xs s H0) (hS : va_S (fun q => S0 ≤ q) H0 H locs) (hb : b < S0) (hz : S0 ≤ H0.size) : va_X b L xs s H := X_kp h (hS.2.1 b (by omega) (by show ¬ S0 ≤ b; omega))
def LQX (l : Launch) (y : MethodName) (ws : List Cond) (fr lo mc ms : Nat) (As : List Value) (D : va_G) (cA : ClassId) (b L : Nat) (xs : Nat → Int32) (H0 : Heap) (A : Nat → Prop) (P : Option Value → Heap → Prop) : Prop := Met l y ws { frames := fr, cells := mc, slots := ms, locals := lo } (cPs As D cA b L xs H0) (lqQ P A H0) mc ms A
theorem LQX_of {l : Launch} {y : MethodName} {ws ws' : List Cond} {fr lo mc ms : Nat} {As : List Value} {D : va_G} {cA : ClassId} {b L : Nat} {xs : Nat → Int32} {H0 : Heap} {A : Nat → Prop} {P : Option Value → Heap → Prop} {cc : ByteArray} {maxL : Nat} {ret : Option FieldType} (hy : plainName y.cls = true) (hw : ws = Cond.code y cc maxL ret :: ws') (hlen : (lg_sl As).length ≤ maxL)
    (body : ∀ (p : Program) (e : Env) (s : State) (m : MethodId) (below : List Frame) (meth : Method) (c : Code) (ls : Array Slot), p.tables.exec = Jvm.exec → c.code = cc → c.maxLocals = maxL → meth.sig.returnType = ret → s.vm.findClass y.cls = some m.cls → (∀ w ∈ ws, w.before As.toArray s = true) → meth.locks = false → s.heap = H0 → KK D cA s → va_X b L xs s H0 → lv_has ls maxL (lv_args 0 As) →
      W p l e { frames := fr, cells := mc, slots := ms, locals := lo } s m As.toArray below meth c H0 [] 0 0 (MQ below (lqQ P A H0) As.toArray s mc ms A) (F0 m 0 ls [])) : LQX l y ws fr lo mc ms As D cA b L xs H0 A P := by
  refine Met.ofW (cc := cc) (maxL := maxL) (ret := ret) hy hw ?_
  intro p e s m args below meth c s₁ B hml hv
  obtain ⟨rfl, rfl, hK, hX⟩ := hv
  rw [lg_entry_eq]
  exact body p e s m below meth c _ B.exec B.bytes hml B.returns (findClass_of_methodNamed B.named) (atoms_spec B.pre) B.notSynchronized rfl hK hX (lv_entry As hlen)
section FNEW
variable {p : Program} {l : Launch} {e : Env} {R : Room} {s : State} {m : MethodId} {args : Array Value} {below : List Frame} {meth : Method} {c : Code} {H H0 : Heap} {locs : List Loc} {cells slots : Nat} {Q : State → Prop}
variable {cc : ByteArray} {pc : Nat} {ls : Array Slot} {rest : List Value} {D : va_G} {cA : ClassId} {A : Nat → Prop}
theorem fa_new (hexec : p.tables.exec = Jvm.exec) (hb : c.code = cc) {own C : String} {T : u_T} {N ci index : Nat} {Ts : List Cond} (hts : ∀ w ∈ Ts, w.before args s = true) (hin : ∀ w ∈ u_ws C T N, w ∈ Ts) (ty : Nat → FieldType) (hty : ∀ k, k < N → parseFieldDescriptor (T k).2.2.1 = some (ty k)) (hown : s.vm.findClass own = some m.cls) (hcl : (Cond.classLink own index C).before args s = true) (hinst : (Cond.instantiable C N).before args s = true) (hini : (Cond.initialized C).before args s = true)
    (hK : KK D cA s) (hS : va_S A H0 H locs) (hc : vwCl[ci]? = some (C, T, N)) {fs : List Value} (hfs : ∀ j, j < N → defaultValue (ty j) = vp_V fs j) (hcells : cells + 1 ≤ R.cells) (hslots : slots + N ≤ R.slots) (hdg : decode cc pc = .ok (.new index, 3))
    (kk : ∀ (q : Nat) (H1 : Heap), AT D q (.inr (ci, fs)) H1 → q = H.size → EX H H1 → va_S A H0 H1 locs → W p l e R s m args below meth c H1 locs (cells + 1) (slots + N) Q (F0 m (pc + 3) ls (.ref q :: rest))) : W p l e R s m args below meth c H locs cells slots Q (F0 m pc ls rest) := by
  have hKn := hK.1.1 ci _ hc
  refine W.newcK hexec hb hown hcl hinst hini rfl hdg hcells hslots hKn.2.1 rfl fun H1 kC hkC e1 z1 o1 => ?_
  obtain ⟨s1, s2⟩ := hS.new z1 o1
  exact kk H.size H1 ⟨_, hc, (u_born ty hts hin hKn hkC e1 hty).to hfs⟩ rfl s2 s1
end FNEW
theorem WX_lt {D : va_G} {cA : ClassId} {H : Heap} {ad : Nat → Nat} {N : Nat} {al be to od ph mn : Nat → Int32} {bu : Int32} {fi la : Nat → Int32} {tb : Int32} {tf tl : Nat → Int32} (hC : va_P D vwCl (WX cA ad N al be to od ph mn bu fi la tb tf tl) H) : ∀ k, k < 15 → ad k < H.size := fun k hk => by
  rcases (show k = 0 ∨ k = 1 ∨ k = 2 ∨ k = 3 ∨ k = 4 ∨ k = 5 ∨ k = 6 ∨ k = 7 ∨ k = 8 ∨ k = 9 ∨ k = 10 ∨ k = 11 ∨ k = 12 ∨ k = 13 ∨ k = 14 by omega) with rfl | rfl | rfl | rfl | rfl | rfl | rfl | rfl | rfl | rfl | rfl | rfl | rfl | rfl | rfl
  · exact (hC 0 _ rfl).lt
  · exact (hC 1 _ rfl).lt
  · exact (hC 2 _ rfl).lt
  · exact (hC 3 _ rfl).lt
  · exact (hC 4 _ rfl).lt
  · exact (hC 5 _ rfl).lt
  · exact (hC 6 _ rfl).lt
  · exact (hC 7 _ rfl).lt
  · exact (hC 8 _ rfl).lt
  · exact (hC 9 _ rfl).lt
  · exact (hC 10 _ rfl).lt
  · exact (hC 11 _ rfl).lt
  · exact (hC 12 _ rfl).lt
  · exact (hC 13 _ rfl).lt
  · exact (hC 14 _ rfl).lt
theorem bd_rem : ∀ k, k < 24 → nI k - nI k / 16 * 16 = nI (k % 16) := by decide +kernel
def roN (S0 a sm fo ho q : Nat) : Nat := if q < S0 then 0 else if q < a then 1 else if q = a then 2 else if q ≤ sm then 3 else if q = fo then 5 else if q = ho then 6 else if q < ho then 8 else 7
theorem ro_new {H1 : Heap} {S0 a ab sm fo ho : Nat} {ad rfi rhe : Nat → Nat} (h0 : ∀ k, k < 15 → S0 ≤ ad k ∧ ad k < a) (hz : S0 ≤ a) (h1 : a < H1.size) (hq : H1.size ≤ ab ∧ ab < sm ∧ sm < fo ∧ fo < ho) (h2 : ∀ i, i < 14 → sm < rfi i ∧ rfi i ≠ fo ∧ rfi i < ho) (h3 : ∀ i j, i < 14 → j < 14 → rfi i = rfi j → i = j) (h4 : ∀ i, i < 14 → ho < rhe i) (r r' : Nat → Nat) : RR (roN S0 a sm fo ho) S0 ad a ab sm fo ho rfi rhe r r' 0 0 := by
  obtain ⟨z1, z2, z3, z4⟩ := hq
  refine ⟨fun q h => if_pos h, fun k hk => ?_, ?_, ?_, ?_, ?_, ?_, fun i hi => ?_, fun i hi => ?_, fun i hi => absurd hi (Nat.not_lt_zero i), fun i hi => absurd hi (Nat.not_lt_zero i), h3⟩
  · obtain ⟨x, y⟩ := h0 k hk
    unfold roN
    rw [if_neg (by omega), if_pos y]
  · unfold roN
    rw [if_neg (by omega), if_neg (by omega), if_pos rfl]
  · unfold roN
    rw [if_neg (by omega), if_neg (by omega), if_neg (by omega), if_pos (by omega)]
  · unfold roN
    rw [if_neg (by omega), if_neg (by omega), if_neg (by omega), if_pos (by omega)]
  · unfold roN
    rw [if_neg (by omega), if_neg (by omega), if_neg (by omega), if_neg (by omega), if_pos rfl]
  · unfold roN
    rw [if_neg (by omega), if_neg (by omega), if_neg (by omega), if_neg (by omega), if_neg (by omega), if_pos rfl]
  · obtain ⟨x, y, z⟩ := h2 i hi
    unfold roN
    rw [if_neg (by omega), if_neg (by omega), if_neg (by omega), if_neg (by omega), if_neg y, if_neg (by omega), if_pos z]
  · have y := h4 i hi
    unfold roN
    rw [if_neg (by omega), if_neg (by omega), if_neg (by omega), if_neg (by omega), if_neg (by omega), if_neg (by omega), if_neg (by omega)]
set_option maxHeartbeats 4000000 in
set_option maxRecDepth 100000 in
theorem c_L_build (l : Launch) {D : va_G} {cA : ClassId} {H0 : Heap} {S0 : Nat} {ad : Nat → Nat} {b L : Nat} {xs : Nat → Int32} {al be to od ph : Nat → Int32} {bu : Int32} {fi la : Nat → Int32} {tb : Int32} {tf tl : Nat → Int32} (hI0 : PU 0 al be to od ph (fun _ => 0) bu fi la (fun _ => -1) (fun _ => -1) 0 (fun _ => 0) (fun _ => 0) 0 (fun _ => 0) (fun _ => 0) 0) (hC : va_P D vwCl (WX cA ad 0 al be to od ph (fun _ => 0) bu fi la tb tf tl) H0) (hDc : va_D (fun _ => True) (WX cA ad 0 al be to od ph (fun _ => 0) bu fi la tb tf tl)) (hlo : ∀ k, k < 15 → S0 ≤ ad k ∧ ad k < H0.size) (hbS : b < S0) (hzS : S0 ≤ H0.size) (hL : L ≤ 260) : LQX l yL_build wsL_build 6 147 1500 22000 [.ref (ad 0), .ref b] D cA b L xs H0 (fun q => S0 ≤ q) (fun v H1 => ∃ a, v = some (.ref a) ∧ LX D cA S0 ad a 24 H1) := by
  refine LQX_of (cc := cL_build) (maxL := 5) (ret := (some (.object "CairnShellsLaw$Sim"))) (by decide) rfl (Nat.le_of_ble_eq_true rfl) ?_
  intro p e s m below meth c ls hx hb hml hr hown hts hlk hH hK hX hl
  have hown : s.vm.findClass RL = some m.cls := hown
  have hl : lv_has ls 5 [(0, .ref (ad 0)), (1, .ref b)] := hl
  have hinX0 : ∀ w ∈ wsX00, w ∈ wsL_build := fun w h9 => List.mem_cons_of_mem _ (List.mem_append_left _ (List.mem_append_left _ (List.mem_append_left _ (List.mem_append_right _ h9))))
  have hinX1 : ∀ w ∈ wsX10, w ∈ wsL_build := fun w h9 => List.mem_cons_of_mem _ (List.mem_append_left _ (List.mem_append_left _ (List.mem_append_left _ (List.mem_append_left _ (List.mem_append_right _ h9)))))
  have hinX2 : ∀ w ∈ wsX20, w ∈ wsL_build := fun w h9 => List.mem_cons_of_mem _ (List.mem_append_left _ (List.mem_append_left _ (List.mem_append_left _ (List.mem_append_left _ (List.mem_append_left _ (List.mem_append_right _ h9))))))
  have hinX3 : ∀ w ∈ wsX30, w ∈ wsL_build := fun w h9 => List.mem_cons_of_mem _ (List.mem_append_left _ (List.mem_append_left _ (List.mem_append_left _ (List.mem_append_left _ (List.mem_append_left _ (List.mem_append_left _ (List.mem_append_right _ h9)))))))
  have hinX4 : ∀ w ∈ wsX40, w ∈ wsL_build := fun w h9 => List.mem_cons_of_mem _ (List.mem_append_left _ (List.mem_append_left _ (List.mem_append_left _ (List.mem_append_left _ (List.mem_append_left _ (List.mem_append_left _ (List.mem_append_left _ (List.mem_append_right _ h9))))))))
  have hS : va_S (fun q => S0 ≤ q) H0 H0 [] := va_S.rf
  have hE : EX H0 H0 := KP.rf
  have hP : va_P D vwCl [] H0 := fun k q h => by simp at h
  have hD : va_D (fun q => S0 ≤ q) [] := ⟨fun i j p q h => by simp at h, fun k q h => by simp at h⟩
  have hU := hI0
  have hXS : ∀ (H : Heap) (locs : List Loc), va_S (fun q => S0 ≤ q) H0 H locs → va_X b L xs s H := fun H locs h => X_S hX h hbS hzS
  refine fa_new (D := D) (ci := 4) (fs := [.int 0, .null, .null, .null, .null, .null, .null]) (C := RX4) (T := TX4) (N := 7) hx hb hts hinX4 tyX4 tyX4_ok hown (hts (.classLink RL 10 RX4) (by decide +kernel)) (hts (.instantiable RX4 7) (by decide +kernel)) (hts (.initialized RX4) (by decide +kernel)) hK hS rfl (fun j hj => by rcases (show j = 0 ∨ j = 1 ∨ j = 2 ∨ j = 3 ∨ j = 4 ∨ j = 5 ∨ j = 6 by omega) with rfl | rfl | rfl | rfl | rfl | rfl | rfl <;> rfl) (by show _ ≤ 1500; omega) (by show _ ≤ 22000; omega) dL_build_0 (fun a H1 hO ea hE9 hS => ?_)
  have hC := EX.P hE9 hC
  refine lv_dup hx hb dL_build_3 rfl ?_
  have hA9 : ∀ q, (q = a ∨ H1.size ≤ q) → S0 ≤ q := fun q h => by have h7 := hE9.1; rcases h with h | h <;> omega
  refine LQ_go (va_runI (As := []) (rest := [.ref a]) ⟨hx, hb, hml, hown, hts⟩ (c_X4_init l (D := D) (cA := cA) (H0 := H1) hO) (cwI 0 hts gL_build_X4_init rfl rfl rfl (hts (.initialized RX4) (by decide +kernel)) (hts (.methodLink RL 74 yX4_init) (by decide +kernel)) (hts (.instanceMethod yX4_init) (by decide +kernel)) rfl (by decide +kernel) ⟨Nat.le_of_ble_eq_true rfl, Nat.le_of_ble_eq_true rfl⟩) (cP_S hK) rfl rfl hl.1 rfl (lv_room (Nat.le_of_ble_eq_true rfl)) dL_build_4 ⟨by show _ ≤ 1500; omega, by show _ ≤ 22000; omega⟩) hS hA9 (fun v9 H2 locs hp9 hk9 hS => ?_)
  obtain ⟨rfl, ab, sm, fo, ho, rfi, rhe, hO2, hGa, hGs, hGf, hGh, hq9, hr9, hi9, hh9⟩ := hp9
  refine W.eq (g2 := F0 m 7 ls [.ref a]) rfl ?_
  have hC : va_P D vwCl (WX cA ad 0 al be to od ph (fun _ => 0) bu fi la tb tf tl) H2 := hk9.P hC (fun i q hq z => by
    obtain ⟨j, hj, e9⟩ := WX_ad hq
    have h7 := hlo j hj
    have h8 := hE9.1
    rcases z with z | z <;> omega)
  have hV : LV D cA S0 ad a 0 0 H2 := LV.mk (v5 := .null) (v6 := .null) (rab := fun _ => 0) (rsm := fun _ => 0) hU hC hDc hO2 ⟨hGa _ _, hGs _ _, hGf, hGh.cong (fun i j _ _ => by show _ = if j = 0 then (-1 : Int32) else -1; split <;> rfl)⟩ (ro_new (H1 := H1) (fun k hk => ⟨(hlo k hk).1, by have := (hlo k hk).2; omega⟩) (by omega) (AT.lt hO) hq9 hr9 hi9 hh9 _ _)
  clear hC hO2 hGa hGs hGf hGh
  refine lv_astore_n (lv' := [(2, .ref a), (0, .ref (ad 0)), (1, .ref b)]) hx hb dL_build_7 rfl hl (by decide) rfl (fun ls hl => ?_)
  refine lv_iconst (v := 1) hx hb dL_build_8 (by decide) ?_
  refine lv_aload_n hx hb dL_build_9 rfl (lv_at hl 2 rfl) ?_
  refine lv_iconst (v := 0) hx hb dL_build_10 (by decide) ?_
  have hX9 := hXS _ _ hS
  refine CE_go (a := ([.ref b, .int (nI 0)] : List Value).toArray) (va_runS (As := [.ref b, .int (nI 0)]) (rest := [.int 1]) ⟨hx, hb, hml, hown, hts⟩ (c_L_cell l (D := D) (cA := cA) (L := L) (xs := xs) 0 (by omega) hL (Nat.lt_of_lt_of_le hbS (Nat.le_trans hzS hS.1))) (va_cwS 2 hts gL_build_L_cell rfl rfl rfl (by decide +kernel) ⟨Nat.le_of_ble_eq_true rfl, Nat.le_of_ble_eq_true rfl⟩) (cPs_S hK hX9) rfl rfl hl.1 rfl (lv_room (Nat.le_of_ble_eq_true rfl)) dL_build_11 ⟨by show _ ≤ 1500; omega, by show _ ≤ 22000; omega⟩) (fun w11 => ?_)
  refine lv_bipush (v := 9) hx hb dL_build_14 (by decide) ?_
  refine RO_go (va_runS (As := [.int w11, .int 9]) (rest := [.int 1]) ⟨hx, hb, hml, hown, hts⟩ (c_L_below l (D := D) (cA := cA) (H0 := H2) w11 9 (by omega) (by omega)) (va_cwS 2 hts gL_build_L_below rfl rfl rfl (by decide +kernel) ⟨Nat.le_of_ble_eq_true rfl, Nat.le_of_ble_eq_true rfl⟩) (cP_S hK) rfl rfl hl.1 rfl (lv_room (Nat.le_of_ble_eq_true rfl)) dL_build_16 ⟨by show _ ≤ 1500; omega, by show _ ≤ 22000; omega⟩) ?_
  obtain ⟨kb16, hkb16, ekb16⟩ := bel_ex w11 (u := 9) (by omega) (by omega)
  rw [ekb16]
  refine my_iaddN (x := 1) (y := kb16) hx hb dL_build_19 ?_
  refine lv_istore_n (lv' := [(3, .int (nI (1 + kb16))), (2, .ref a), (0, .ref (ad 0)), (1, .ref b)]) hx hb dL_build_20 rfl hl (by decide) rfl (fun ls hl => ?_)
  refine lv_iconst (v := 0) hx hb dL_build_21 (by decide) ?_
  refine lv_istore (lv' := [(4, .int 0), (3, .int (nI (1 + kb16))), (2, .ref a), (0, .ref (ad 0)), (1, .ref b)]) hx hb dL_build_22 hl (by decide) rfl (fun ls hl => ?_)
  suffices lp24 : ∀ n k : Nat, k ≤ (1 + kb16) → (1 + kb16) < k + n → ∀ (H : Heap) (locs : List Loc), LV D cA S0 ad a 0 k H → va_S (fun q => S0 ≤ q) H0 H locs → ∀ ls, lv_has ls 5 [(4, .int (nI k)), (3, .int (nI (1 + kb16))), (2, .ref a), (1, .ref b), (0, .ref (ad 0))] → W p l e { frames := 6, cells := 1500, slots := 22000, locals := 147 } s m ([.ref (ad 0), .ref b] : List Value).toArray below meth c H locs (0 + 1 + 40) (0 + 7 + 140) (MQ below (lqQ (fun v H1 => ∃ a, v = some (.ref a) ∧ LX D cA S0 ad a 24 H1) (fun q => S0 ≤ q) H0) ([.ref (ad 0), .ref b] : List Value).toArray s 1500 22000 (fun q => S0 ≤ q)) (F0 m 24 ls []) from lp24 ((1 + kb16) + 1) 0 (by omega) (by omega) H2 _ hV hS _ (lv_sub hl [0, 1, 2, 4, 3] rfl)
  intro n
  induction n with
  | zero => intro k hk1 hk2; exact absurd hk2 (by omega)
  | succ n ih24 =>
    intro k hk24 hn24 H3 locs hV hS ls hl
    refine lv_iload hx hb dL_build_24 (lv_at hl 0 rfl) ?_
    refine lv_iload_n hx hb dL_build_26 rfl (lv_at hl 1 rfl) ?_
    refine my_geN (x := k) (y := 1 + kb16) (tgt := 57) hx hb dL_build_27 (by decide) (by omega) (by omega) (fun h1 => ?_) (fun h1 => ?_)
    · obtain rfl : k = 1 + kb16 := by omega
      have hV : LX D cA S0 ad a 0 H3 := ⟨1 + kb16, by omega, hV⟩
      refine lv_iconst (v := 0) hx hb dL_build_57 (by decide) ?_
      refine lv_istore (lv' := [(4, .int 0), (3, .int (nI (1 + kb16))), (2, .ref a), (1, .ref b), (0, .ref (ad 0))]) hx hb dL_build_58 hl (by decide) rfl (fun ls hl => ?_)
      suffices lp60 : ∀ n z : Nat, z ≤ 24 → 24 < z + n → ∀ (H : Heap) (locs : List Loc), LX D cA S0 ad a z H → va_S (fun q => S0 ≤ q) H0 H locs → ∀ ls, lv_has ls 5 [(4, .int (nI z)), (3, .int (nI (1 + kb16))), (2, .ref a), (1, .ref b), (0, .ref (ad 0))] → W p l e { frames := 6, cells := 1500, slots := 22000, locals := 147 } s m ([.ref (ad 0), .ref b] : List Value).toArray below meth c H locs (0 + 1 + 40 + z * 60) (0 + 7 + 140 + z * 900) (MQ below (lqQ (fun v H1 => ∃ a, v = some (.ref a) ∧ LX D cA S0 ad a 24 H1) (fun q => S0 ≤ q) H0) ([.ref (ad 0), .ref b] : List Value).toArray s 1500 22000 (fun q => S0 ≤ q)) (F0 m 60 ls []) from W.widen (by omega) (by omega) (lp60 (24 + 1) 0 (by omega) (by omega) H3 _ hV hS _ (lv_sub hl [0, 1, 2, 3, 4] rfl))
      intro n
      induction n with
      | zero => intro z hk1 hk2; exact absurd hk2 (by omega)
      | succ n ih60 =>
        intro z hk60 hn60 H4 locs hV hS ls hl
        refine lv_iload hx hb dL_build_60 (lv_at hl 0 rfl) ?_
        refine lv_bipush (v := 24) hx hb dL_build_62 (by decide) ?_
        refine my_geN (x := z) (y := 24) (tgt := 107) hx hb dL_build_64 (by decide) (by omega) (by omega) (fun h1 => ?_) (fun h1 => ?_)
        · obtain rfl : z = 24 := by omega
          refine lv_aload_n hx hb dL_build_107 rfl (lv_at hl 2 rfl) ?_
          exact LQ_aret hx hb hr (by first | exact Or.inl ⟨_, rfl⟩ | exact Or.inr ⟨_, rfl⟩) hlk dL_build_108 (by omega) (by omega) ⟨a, rfl, hV⟩ hS
        · have h16 := bd_rem z (by omega)
          refine lv_aload_n hx hb dL_build_67 rfl (lv_at hl 4 rfl) ?_
          refine lv_aload_n hx hb dL_build_68 rfl (lv_at hl 2 rfl) ?_
          refine lv_aload_n hx hb dL_build_69 rfl (lv_at hl 3 rfl) ?_
          refine lv_iload hx hb dL_build_70 (lv_at hl 0 rfl) ?_
          refine lv_bipush (v := 16) hx hb dL_build_72 (by decide) ?_
          refine lv_irem hx hb dL_build_74 (by first | decide | assumption) ?_
          rw [h16]
          have hX9 := hXS _ _ hS
          refine CE_go (a := ([.ref b, .int (nI (z % 16))] : List Value).toArray) (va_runS (As := [.ref b, .int (nI (z % 16))]) (rest := [.ref a, .ref (ad 0)]) ⟨hx, hb, hml, hown, hts⟩ (c_L_cell l (D := D) (cA := cA) (L := L) (xs := xs) (z % 16) (by omega) hL (Nat.lt_of_lt_of_le hbS (Nat.le_trans hzS hS.1))) (va_cwS 2 hts gL_build_L_cell rfl rfl rfl (by decide +kernel) ⟨Nat.le_of_ble_eq_true rfl, Nat.le_of_ble_eq_true rfl⟩) (cPs_S hK hX9) rfl rfl hl.1 rfl (lv_room (Nat.le_of_ble_eq_true rfl)) dL_build_75 ⟨by show _ ≤ 1500; omega, by show _ ≤ 22000; omega⟩) (fun w75 => ?_)
          refine lv_iload hx hb dL_build_78 (lv_at hl 0 rfl) ?_
          refine lv_bipush (v := 16) hx hb dL_build_80 (by decide) ?_
          refine lv_idiv hx hb dL_build_82 (by decide) ?_
          refine lv_iconst (v := 4) hx hb dL_build_83 (by decide) ?_
          refine lv_imul hx hb dL_build_84 ?_
          refine lv_ishr hx hb dL_build_85 ?_
          refine lv_sipush (v := 263) hx hb dL_build_86 (by decide) ?_
          refine lv_iload hx hb dL_build_89 (lv_at hl 0 rfl) ?_
          refine my_imulN (x := 263) (y := z) hx hb dL_build_91 ?_
          refine lv_iadd hx hb dL_build_92 ?_
          refine LQ_go (va_runS (As := [.ref (ad 0), .ref a, .int (((w75 : Int32) >>> ((((nI z) / 16) * 4) &&& 31)) + (nI (263 * z)))]) (rest := []) ⟨hx, hb, hml, hown, hts⟩ (c_L_act l (D := D) (cA := cA) (H0 := H4) hV (by omega)) (va_cwS 3 hts gL_build_L_act rfl rfl rfl (by decide +kernel) ⟨Nat.le_of_ble_eq_true rfl, Nat.le_of_ble_eq_true rfl⟩) (cP_S hK) rfl rfl hl.1 rfl (lv_room (Nat.le_of_ble_eq_true rfl)) dL_build_93 ⟨by show _ ≤ 1500; omega, by show _ ≤ 22000; omega⟩) hS (fun q h => h) (fun v9 H5 locs hp9 hk9 hS => ?_)
          obtain ⟨rfl, hV2⟩ := hp9
          refine W.eq (g2 := F0 m 96 ls [.int 1]) rfl ?_
          refine lv_if_ne (tgt := 101) hx hb dL_build_96 (by decide) (fun _ => ?_) (fun h => absurd h (by decide))
          refine lv_iinc (v := nI (z + 1)) (x := nI z) (lv' := [(4, .int (nI (z + 1))), (3, .int (nI (1 + kb16))), (2, .ref a), (1, .ref b), (0, .ref (ad 0))]) hx hb dL_build_101 hl (k := 0) rfl (nI_1 z) (by decide) rfl (fun ls hl => ?_)
          refine lv_goto (tgt := 60) hx hb dL_build_104 (by decide) ?_
          exact W.widen (by omega) (by omega) (ih60 (z + 1) (by omega) (by omega) _ _ hV2 hS _ (lv_sub hl [0, 1, 2, 3, 4] rfl))
    · obtain ⟨al, be, to, od, ph, mn, bu, fi, la, tb, tf, tl, fr, tt, mA, ax, ay, mS, sx, sy, ab, sm, fo, ho, rfi, rhe, rab, rsm, v5, v6, ro, hU, hC, hD, hO, hB, hro⟩ := hV
      have hz : S0 ≤ H3.size := Nat.le_trans hzS hS.1
      refine lv_aload_n hx hb dL_build_30 rfl (lv_at hl 4 rfl) ?_
      refine WRL_go (va_runV (As := []) (rest := []) ⟨hx, hb, hml, hown, hts⟩ (k_find l  hU.1 hC hD (by omega)) (cwV 0 hts gL_build_X3_find rfl rfl rfl (by decide +kernel) ⟨Nat.le_of_ble_eq_true rfl, Nat.le_of_ble_eq_true rfl⟩) (cP_V hK (va_recv hK.1 (AT.one (hC 0 _ rfl)) (ci := 3) (q0 := 0) rfl rfl)) rfl rfl hl.1 rfl (lv_room (Nat.le_of_ble_eq_true rfl)) dL_build_31 ⟨by show _ ≤ 1500; omega, by show _ ≤ 22000; omega⟩) hS (hro.clsA hz) (fun H7 locs hC9 hk9 hS => ?_)
      have hk9 := hro.cls hk9
      have hO : SO D H7 a k ab sm fo ho v5 v6 := KP.at hk9 hO (fun z => absurd (hro.2.2.1.symm.trans z) (by decide))
      have hB : SB D cA H7 ab sm fo ho rfi rhe rab rsm mA ax ay mS sx sy mn fr tt := SB.kp hro hk9 (by decide) hB
      have hz : S0 ≤ H7.size := Nat.le_trans hz hk9.1
      have hC : va_P D vwCl (WX cA ad (k + 1) (upd al k ((1 : Int32) <<< (nI k &&& 31))) be to (arO (k + 1) be od (k + 1)) (arP (k + 1) be ph (k + 1)) mn bu fi la tb tf tl) H7 := hC9
      have hD : va_D (fun _ => True) (WX cA ad (k + 1) (upd al k ((1 : Int32) <<< (nI k &&& 31))) be to (arO (k + 1) be od (k + 1)) (arP (k + 1) be ph (k + 1)) mn bu fi la tb tf tl) := hD.adr rfl
      refine W.eq (g2 := F0 m 34 ls [.int (nI k)]) rfl ?_
      refine lv_iload hx hb dL_build_34 (lv_at hl 0 rfl) ?_
      refine my_eqN (x := k) (y := k) (tgt := 41) hx hb dL_build_36 (by decide) (by omega) (by omega) (fun _ => ?_) (fun h9 => absurd rfl h9)
      refine lv_aload_n hx hb dL_build_41 rfl (lv_at hl 2 rfl) ?_
      refine lv_dup hx hb dL_build_42 rfl ?_
      refine fa_get (D := D) (ci := 4) (v := .int (nI k)) (C := RX4) (T := TX4) (N := 7) hx hb hts hinX4 hown hK hO rfl 0 (by decide) (hts (.fieldLink RL 9 "CairnShellsLaw$Sim" "n" "I") (by decide +kernel)) (fun _ h9 => h9) rfl dL_build_43 ?_
      refine lv_iconst (v := 1) hx hb dL_build_46 (by decide) ?_
      refine my_iaddN (x := k) (y := 1) hx hb dL_build_47 ?_
      refine fa_put (D := D) (ci := 4) (v := .int (nI (k + 1))) (ty := .int) (C := RX4) (T := TX4) (N := 7) hx hb hts hinX4 tyX4 tyX4_ok nmX4 hown hK hO hS (hro.S (by rw [hro.2.2.1]; decide)) rfl 0 (by decide) (hts (.fieldLink RL 9 "CairnShellsLaw$Sim" "n" "I") (by decide +kernel)) (fun _ h9 => h9) rfl (by decide +kernel) rfl rfl (Nat.le_of_ble_eq_true rfl) dL_build_48 (fun H9 locs hO ho9 hS => ?_)
      have hk9 := RR.on hro.2.2.1 ho9
      have hC : va_P D vwCl (WX cA ad (k + 1) (upd al k ((1 : Int32) <<< (nI k &&& 31))) be to (arO (k + 1) be od (k + 1)) (arP (k + 1) be ph (k + 1)) mn bu fi la tb tf tl) H9 := cls_kp hro hk9 (by decide) hC
      have hB : SB D cA H9 ab sm fo ho rfi rhe rab rsm mA ax ay mS sx sy mn fr tt := SB.kp hro hk9 (by decide) hB
      have hz : S0 ≤ H9.size := Nat.le_trans hz hk9.1
      have hO : SO D H9 a (k + 1) ab sm fo ho v5 v6 := hO
      have hV2 : LV D cA S0 ad a 0 (k + 1) H9 := LV.mk (hU.find (by omega)) hC hD hO hB hro
      refine lv_iinc (v := nI (k + 1)) (x := nI k) (lv' := [(4, .int (nI (k + 1))), (3, .int (nI (1 + kb16))), (2, .ref a), (1, .ref b), (0, .ref (ad 0))]) hx hb dL_build_51 hl (k := 0) rfl (nI_1 k) (by decide) rfl (fun ls hl => ?_)
      refine lv_goto (tgt := 24) hx hb dL_build_54 (by decide) ?_
      exact W.widen (by omega) (by omega) (ih24 (k + 1) (by omega) (by omega) _ _ hV2 hS _ (lv_sub hl [0, 1, 2, 3, 4] rfl))
