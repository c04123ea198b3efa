set_option maxHeartbeats 4000000 in
set_option maxRecDepth 100000 in
theorem c_L_below (l : Launch) {D : va_G} {cA : ClassId} {H0 : Heap} (x : Int32) (u : Nat) (h0 : 0 < u) (hu : u ≤ 20000) : RO l yL_below wsL_below 0 0 [.int x, .int (nI u)] D cA H0 (some (.int (belV x u))) := by
  refine RO_of (cc := cL_below) (maxL := 2) (ret := (some .int)) (by decide) rfl (Nat.le_of_ble_eq_true rfl) ?_
  intro p e s m below meth c ls hx hb hml hr hown hts hlk hH hK hl
  have hown : s.vm.findClass RL = some m.cls := hown
  have hl : lv_has ls 2 [(0, .int x), (1, .int (nI u))] := hl
  have hu9 : ¬ nI u = 0 := nI_ne0 h0 (by omega)
  refine lv_iload_n hx hb dL_below_0 rfl (lv_at hl 0 rfl) ?_
  refine lv_ldc (v := 2147483647) hx hb hown (hts (.constant RL 7 (2147483647)) (by decide +kernel)) dL_below_1 ?_
  refine lv_iand hx hb dL_below_3 ?_
  refine lv_iload_n hx hb dL_below_4 rfl (lv_at hl 1 rfl) ?_
  refine lv_irem hx hb dL_below_5 (by first | decide | assumption) ?_
  exact RO_zret hx hb hr hlk hH dL_below_6 (by rfl) rfl
