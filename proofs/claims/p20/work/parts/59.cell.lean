/-! the script's cells; the making of a simulation -/
/-- what a method that reads the script starts with -/
abbrev cPs (As : List Value) (D : va_G) (cA : ClassId) (b L : Nat) (xs : Nat → Int32) (H0 : Heap) : Array Value → State → Prop := va_Pc As (fun U => U.heap = H0 ∧ KK D cA U ∧ va_X b L xs U H0)
theorem cPs_S {s : State} {As : List Value} {D : va_G} {cA : ClassId} {b L : Nat} {xs : Nat → Int32} {H : Heap} (hK : KK D cA s) (hX : va_X b L xs s H) : PreS s H (cPs As D cA b L xs H) As := ⟨fun _ U g mk q => ⟨q.1, q.2.1, q.2.2.1.call, va_X.moved (u := U) (U := U.calling g mk _) (Vm.Alike.refl U.vm) q.2.2.2⟩, fun _ hU hW => ⟨rfl, hU, hK.warm hW, va_X.moved hW.alike hX⟩⟩
def CE (l : Launch) (fr lo : Nat) (D : va_G) (cA : ClassId) (b L : Nat) (xs : Nat → Int32) (H0 : Heap) (k : Nat) : Prop := Met l yL_cell wsL_cell { frames := fr, cells := 0, slots := 0, locals := lo } (cPs [.ref b, .int (nI k)] D cA b L xs H0) (fun _ _ oc t => ∃ v : Int32, oc = .returned (some (.int v)) ∧ t.heap = H0) 0 0 (fun _ => False)
set_option maxHeartbeats 4000000 in
set_option maxRecDepth 100000 in
theorem c_L_cell (l : Launch) {D : va_G} {cA : ClassId} {b L : Nat} {xs : Nat → Int32} {H0 : Heap} (k : Nat) (hk : k < 2 ^ 20) (hL : L ≤ 260) (hbl : b < H0.size) : CE l 0 0 D cA b L xs H0 k := by
  refine Met.ofW (cc := cL_cell) (maxL := 2) (ret := some .int) (by decide) rfl ?_
  intro p e s m args below meth c s₁ B hml hv
  obtain ⟨rfl, rfl, hK, hX⟩ := hv
  rw [lg_entry_eq]
  have hx := B.exec
  have hb := B.bytes
  have hr := B.returns
  have hts := atoms_spec (ws := wsL_cell) B.pre
  have hown : s.vm.findClass RL = some m.cls := findClass_of_methodNamed B.named
  have hlk := B.notSynchronized
  have hl := lv_entry ([.ref b, .int (nI k)]) (n := 2) (Nat.le_of_ble_eq_true rfl)
  generalize (lg_sl ([.ref b, .int (nI k)]) ++ List.replicate (2 - (lg_sl ([.ref b, .int (nI k)])).length) Slot.unset).toArray = ls at hl ⊢
  have hl : lv_has ls 2 [(0, .ref b), (1, .int (nI k))] := hl
  have hbA : ¬ (fun q : Nat => s.heap.size ≤ q) b := Nat.not_le.mpr hbl
  have hS : va_S (fun q : Nat => s.heap.size ≤ q) s.heap s.heap [] := va_S.rf
  refine lv_iload_n hx hb dL_cell_0 rfl (lv_at hl 1 rfl) ?_
  refine lv_aload_n hx hb dL_cell_1 rfl (lv_at hl 0 rfl) ?_
  refine va_slen hx hb hX hbl hbA hS dL_cell_2 ?_
  refine W.eq (g2 := F0 m 3 ls [.int (nI L), .int (nI k)]) rfl ?_
  refine my_geN (x := k) (y := L) (tgt := 12) hx hb dL_cell_3 (by decide) (by omega) (by omega) (fun h1 => ?_) (fun h1 => ?_)
  · refine lv_ldc (v := 790386105) hx hb hown (hts (.constant RL 8 (790386105)) (by decide +kernel)) dL_cell_12 ?_
    refine lv_iload_n hx hb dL_cell_14 rfl (lv_at hl 1 rfl) ?_
    refine lv_iconst (v := 3) hx hb dL_cell_15 (by decide) ?_
    refine lv_iadd hx hb dL_cell_16 ?_
    refine lv_imul hx hb dL_cell_17 ?_
    exact W.zret hx hb hr rfl (fun t ht _ => ⟨_, rfl, ht⟩) (fun q hq => absurd hq List.not_mem_nil) dL_cell_18 hlk
  · refine lv_aload_n hx hb dL_cell_6 rfl (lv_at hl 0 rfl) ?_
    refine lv_iload_n hx hb dL_cell_7 rfl (lv_at hl 1 rfl) ?_
    refine va_sld hx hb hX hbl hbA hS (vp_in_nI h1 (by omega)) dL_cell_8 ?_
    refine lv_goto (tgt := 18) hx hb dL_cell_9 (by decide) ?_
    exact W.zret hx hb hr rfl (fun t ht _ => ⟨_, rfl, ht⟩) (fun q hq => absurd hq List.not_mem_nil) dL_cell_18 hlk
section MYCE
variable {p : Program} {l : Launch} {e : Env} {R : Room} {s : State} {m : MethodId} {args : Array Value} {below : List Frame} {meth : Method} {c : Code} {H H0 : Heap} {locs : List Loc} {cells slots : Nat} {Q : State → Prop}
variable {cc : ByteArray} {pc : Nat} {ls : Array Slot} {rest st0 : List Value} {a : Array Value}
theorem CE_go (hr : va_Run p l e R s m args below meth c H locs cells slots 0 0 (F0 m pc ls st0) rest ((fun _ _ oc t => ∃ v : Int32, oc = .returned (some (.int v)) ∧ t.heap = H : Array Value → State → Outcome → State → Prop) a) (fun _ => False)) (kk : ∀ v : Int32, W p l e R s m args below meth c H locs cells slots Q (F0 m (pc + 3) ls (.int v :: rest))) : W p l e R s m args below meth c H locs cells slots Q (F0 m pc ls st0) := by
  intro T hT X
  obtain ⟨v', st₀, t, T', L, h0, X', hL, e1, e2, ⟨v, hv, hp⟩, st⟩ := hr T hT X
  cases hv
  have hL0 : L = [] := by
    cases L with
    | nil => rfl
    | cons x xs => exact absurd (hL x List.mem_cons_self) id
  subst hL0
  rw [List.append_nil] at X'
  obtain ⟨t2, a1, b1⟩ := kk v T' (e1.trans hp) X'
  exact ⟨t2, st t2 a1, b1⟩
end MYCE
/-- a simulation that is made -/
def inP (D : va_G) (cA : ClassId) (H0 : Heap) (a : Nat) (v : Option Value) (H1 : Heap) : Prop := v = none ∧ ∃ (ab sm fi he : Nat) (rfi rhe : Nat → Nat), AT D a (.inr (4, [.int 0, .ref ab, .ref sm, .ref fi, .ref he, .null, .null])) H1 ∧ (∀ r M, GI D cA H1 ab 0 r 2 M) ∧ (∀ r M, GI D cA H1 sm 0 r 2 M) ∧ GI D cA H1 fi 14 rfi 4 (fun _ _ => 0) ∧ GI D cA H1 he 14 rhe 2 (fun _ _ => -1) ∧ (H0.size ≤ ab ∧ ab < sm ∧ sm < fi ∧ fi < he) ∧ (∀ i, i < 14 → sm < rfi i ∧ rfi i ≠ fi ∧ rfi i < he) ∧ (∀ i j, i < 14 → j < 14 → rfi i = rfi j → i = j) ∧ ∀ i, i < 14 → he < rhe i
