section
-- ===== PART A: goes FIRST, ahead of the names: the tables' words, and 'selects' of the private methods out of them =====
/-- a private method of a class that the tables say can be made, by its rows of tables_1 -/
def lw_okq (q : MethodName × Nat) : Prop := (q.1.cls ≠ "java/lang/invoke/MethodHandle" ∧ q.1.cls ≠ "java/lang/invoke/VarHandle") ∧ Cond.instantiable q.1.cls q.2 ∈ tables_1 ∧ Cond.privateMethod q.1 ∈ tables_1 ∧ Cond.instanceMethod q.1 ∈ tables_1
theorem lw_p0 : lw_okq (⟨"CairnShells", "doubtfulLayers", "(LCairnShells$Hearths;)I"⟩, 4) := ⟨⟨by decide +kernel, by decide +kernel⟩, List.mem_of_getElem? (i := 16) (by decide +kernel), List.mem_of_getElem? (i := 93) (by decide +kernel), List.mem_of_getElem? (i := 94) (by decide +kernel)⟩
theorem lw_p1 : lw_okq (⟨"CairnShells", "isDoubtful", "(LCairnShells$Hearths;I)Z"⟩, 4) := ⟨⟨by decide +kernel, by decide +kernel⟩, List.mem_of_getElem? (i := 16) (by decide +kernel), List.mem_of_getElem? (i := 101) (by decide +kernel), List.mem_of_getElem? (i := 102) (by decide +kernel)⟩
theorem lw_p2 : lw_okq (⟨"CairnShells", "firstYear", "(LCairnShells$Hearths;I)I"⟩, 4) := ⟨⟨by decide +kernel, by decide +kernel⟩, List.mem_of_getElem? (i := 16) (by decide +kernel), List.mem_of_getElem? (i := 105) (by decide +kernel), List.mem_of_getElem? (i := 106) (by decide +kernel)⟩
theorem lw_p3 : lw_okq (⟨"CairnShells", "lastYear", "(LCairnShells$Hearths;I)I"⟩, 4) := ⟨⟨by decide +kernel, by decide +kernel⟩, List.mem_of_getElem? (i := 16) (by decide +kernel), List.mem_of_getElem? (i := 127) (by decide +kernel), List.mem_of_getElem? (i := 128) (by decide +kernel)⟩
theorem lw_p4 : lw_okq (⟨"CairnShells", "counted", "(I)I"⟩, 4) := ⟨⟨by decide +kernel, by decide +kernel⟩, List.mem_of_getElem? (i := 16) (by decide +kernel), List.mem_of_getElem? (i := 163) (by decide +kernel), List.mem_of_getElem? (i := 164) (by decide +kernel)⟩
theorem lw_p5 : lw_okq (⟨"CairnShells", "mixedLayer", "(JI)J"⟩, 4) := ⟨⟨by decide +kernel, by decide +kernel⟩, List.mem_of_getElem? (i := 16) (by decide +kernel), List.mem_of_getElem? (i := 203) (by decide +kernel), List.mem_of_getElem? (i := 204) (by decide +kernel)⟩
theorem lw_p6 : lw_okq (⟨"CairnShells", "toldOf", "(II)I"⟩, 4) := ⟨⟨by decide +kernel, by decide +kernel⟩, List.mem_of_getElem? (i := 16) (by decide +kernel), List.mem_of_getElem? (i := 207) (by decide +kernel), List.mem_of_getElem? (i := 208) (by decide +kernel)⟩
theorem lw_p7 : lw_okq (⟨"CairnShells", "season", "(I)I"⟩, 4) := ⟨⟨by decide +kernel, by decide +kernel⟩, List.mem_of_getElem? (i := 16) (by decide +kernel), List.mem_of_getElem? (i := 212) (by decide +kernel), List.mem_of_getElem? (i := 213) (by decide +kernel)⟩
theorem lw_p8 : lw_okq (⟨"CairnShells", "findsOf", "(II)I"⟩, 4) := ⟨⟨by decide +kernel, by decide +kernel⟩, List.mem_of_getElem? (i := 16) (by decide +kernel), List.mem_of_getElem? (i := 216) (by decide +kernel), List.mem_of_getElem? (i := 217) (by decide +kernel)⟩
theorem lw_p9 : lw_okq (⟨"java/lang/Throwable", "fillInStackTrace", "(I)Ljava/lang/Throwable;"⟩, 6) := ⟨⟨by decide +kernel, by decide +kernel⟩, List.mem_of_getElem? (i := 278) (by decide +kernel), List.mem_of_getElem? (i := 276) (by decide +kernel), List.mem_of_getElem? (i := 277) (by decide +kernel)⟩
theorem lw_p10 : lw_okq (⟨"CairnShells$Strata", "arrange", "()V"⟩, 6) := ⟨⟨by decide +kernel, by decide +kernel⟩, List.mem_of_getElem? (i := 24) (by decide +kernel), List.mem_of_getElem? (i := 312) (by decide +kernel), List.mem_of_getElem? (i := 313) (by decide +kernel)⟩
theorem lw_p11 : lw_okq (⟨"CairnShells$Strata", "lowestFree", "(I)I"⟩, 6) := ⟨⟨by decide +kernel, by decide +kernel⟩, List.mem_of_getElem? (i := 24) (by decide +kernel), List.mem_of_getElem? (i := 316) (by decide +kernel), List.mem_of_getElem? (i := 317) (by decide +kernel)⟩
theorem lw_p12 : lw_okq (⟨"CairnShells$Strata", "phaseOver", "(I)I"⟩, 6) := ⟨⟨by decide +kernel, by decide +kernel⟩, List.mem_of_getElem? (i := 24) (by decide +kernel), List.mem_of_getElem? (i := 321) (by decide +kernel), List.mem_of_getElem? (i := 322) (by decide +kernel)⟩
theorem lw_p13 : lw_okq (⟨"CairnShells", "checkLayer", "(I)V"⟩, 4) := ⟨⟨by decide +kernel, by decide +kernel⟩, List.mem_of_getElem? (i := 16) (by decide +kernel), List.mem_of_getElem? (i := 333) (by decide +kernel), List.mem_of_getElem? (i := 334) (by decide +kernel)⟩
theorem lw_p14 : lw_okq (⟨"CairnShells$Strata", "link", "(II)V"⟩, 6) := ⟨⟨by decide +kernel, by decide +kernel⟩, List.mem_of_getElem? (i := 24) (by decide +kernel), List.mem_of_getElem? (i := 369) (by decide +kernel), List.mem_of_getElem? (i := 370) (by decide +kernel)⟩
theorem lw_p15 : lw_okq (⟨"CairnShells", "span", "(LCairnShells$Hearths;I)I"⟩, 4) := ⟨⟨by decide +kernel, by decide +kernel⟩, List.mem_of_getElem? (i := 16) (by decide +kernel), List.mem_of_getElem? (i := 491) (by decide +kernel), List.mem_of_getElem? (i := 492) (by decide +kernel)⟩
def lw_privs_1 : List (MethodName × Nat) := [(⟨"CairnShells", "doubtfulLayers", "(LCairnShells$Hearths;)I"⟩, 4), (⟨"CairnShells", "isDoubtful", "(LCairnShells$Hearths;I)Z"⟩, 4), (⟨"CairnShells", "firstYear", "(LCairnShells$Hearths;I)I"⟩, 4), (⟨"CairnShells", "lastYear", "(LCairnShells$Hearths;I)I"⟩, 4), (⟨"CairnShells", "counted", "(I)I"⟩, 4), (⟨"CairnShells", "mixedLayer", "(JI)J"⟩, 4), (⟨"CairnShells", "toldOf", "(II)I"⟩, 4), (⟨"CairnShells", "season", "(I)I"⟩, 4), (⟨"CairnShells", "findsOf", "(II)I"⟩, 4), (⟨"java/lang/Throwable", "fillInStackTrace", "(I)Ljava/lang/Throwable;"⟩, 6), (⟨"CairnShells$Strata", "arrange", "()V"⟩, 6), (⟨"CairnShells$Strata", "lowestFree", "(I)I"⟩, 6), (⟨"CairnShells$Strata", "phaseOver", "(I)I"⟩, 6), (⟨"CairnShells", "checkLayer", "(I)V"⟩, 4), (⟨"CairnShells$Strata", "link", "(II)V"⟩, 6), (⟨"CairnShells", "span", "(LCairnShells$Hearths;I)I"⟩, 4)]
theorem lw_r1 : ∀ q ∈ lw_privs_1, lw_okq q := List.forall_mem_cons.mpr ⟨lw_p0, List.forall_mem_cons.mpr ⟨lw_p1, List.forall_mem_cons.mpr ⟨lw_p2, List.forall_mem_cons.mpr ⟨lw_p3, List.forall_mem_cons.mpr ⟨lw_p4, List.forall_mem_cons.mpr ⟨lw_p5, List.forall_mem_cons.mpr ⟨lw_p6, List.forall_mem_cons.mpr ⟨lw_p7, List.forall_mem_cons.mpr ⟨lw_p8, List.forall_mem_cons.mpr ⟨lw_p9, List.forall_mem_cons.mpr ⟨lw_p10, List.forall_mem_cons.mpr ⟨lw_p11, List.forall_mem_cons.mpr ⟨lw_p12, List.forall_mem_cons.mpr ⟨lw_p13, List.forall_mem_cons.mpr ⟨lw_p14, List.forall_mem_cons.mpr ⟨lw_p15, fun _ h => absurd h List.not_mem_nil⟩⟩⟩⟩⟩⟩⟩⟩⟩⟩⟩⟩⟩⟩⟩⟩
theorem lw_p16 : lw_okq (⟨"CairnShellsModel", "fail", "(I)I"⟩, 7) := ⟨⟨by decide +kernel, by decide +kernel⟩, List.mem_of_getElem? (i := 506) (by decide +kernel), List.mem_of_getElem? (i := 542) (by decide +kernel), List.mem_of_getElem? (i := 543) (by decide +kernel)⟩
theorem lw_p17 : lw_okq (⟨"CairnShellsModel", "isLayer", "(I)Z"⟩, 7) := ⟨⟨by decide +kernel, by decide +kernel⟩, List.mem_of_getElem? (i := 506) (by decide +kernel), List.mem_of_getElem? (i := 550) (by decide +kernel), List.mem_of_getElem? (i := 551) (by decide +kernel)⟩
theorem lw_p18 : lw_okq (⟨"CairnShellsModel", "isRefused", "(II)Z"⟩, 7) := ⟨⟨by decide +kernel, by decide +kernel⟩, List.mem_of_getElem? (i := 506) (by decide +kernel), List.mem_of_getElem? (i := 557) (by decide +kernel), List.mem_of_getElem? (i := 558) (by decide +kernel)⟩
theorem lw_p19 : lw_okq (⟨"CairnShellsModel", "andAbove", "(I)I"⟩, 7) := ⟨⟨by decide +kernel, by decide +kernel⟩, List.mem_of_getElem? (i := 506) (by decide +kernel), List.mem_of_getElem? (i := 564) (by decide +kernel), List.mem_of_getElem? (i := 565) (by decide +kernel)⟩
theorem lw_p20 : lw_okq (⟨"CairnShellsModel", "andBeneath", "(I)I"⟩, 7) := ⟨⟨by decide +kernel, by decide +kernel⟩, List.mem_of_getElem? (i := 506) (by decide +kernel), List.mem_of_getElem? (i := 568) (by decide +kernel), List.mem_of_getElem? (i := 569) (by decide +kernel)⟩
theorem lw_p21 : lw_okq (⟨"CairnShellsModel", "lay", "(II)V"⟩, 7) := ⟨⟨by decide +kernel, by decide +kernel⟩, List.mem_of_getElem? (i := 506) (by decide +kernel), List.mem_of_getElem? (i := 572) (by decide +kernel), List.mem_of_getElem? (i := 573) (by decide +kernel)⟩
theorem lw_p22 : lw_okq (⟨"CairnShellsModel", "from", "(I)I"⟩, 7) := ⟨⟨by decide +kernel, by decide +kernel⟩, List.mem_of_getElem? (i := 506) (by decide +kernel), List.mem_of_getElem? (i := 591) (by decide +kernel), List.mem_of_getElem? (i := 592) (by decide +kernel)⟩
theorem lw_p23 : lw_okq (⟨"CairnShellsModel", "isDated", "(I)Z"⟩, 7) := ⟨⟨by decide +kernel, by decide +kernel⟩, List.mem_of_getElem? (i := 506) (by decide +kernel), List.mem_of_getElem? (i := 595) (by decide +kernel), List.mem_of_getElem? (i := 596) (by decide +kernel)⟩
theorem lw_p24 : lw_okq (⟨"CairnShellsModel", "toldOf", "(II)I"⟩, 7) := ⟨⟨by decide +kernel, by decide +kernel⟩, List.mem_of_getElem? (i := 506) (by decide +kernel), List.mem_of_getElem? (i := 612) (by decide +kernel), List.mem_of_getElem? (i := 613) (by decide +kernel)⟩
theorem lw_p25 : lw_okq (⟨"CairnShellsModel", "to", "(I)I"⟩, 7) := ⟨⟨by decide +kernel, by decide +kernel⟩, List.mem_of_getElem? (i := 506) (by decide +kernel), List.mem_of_getElem? (i := 616) (by decide +kernel), List.mem_of_getElem? (i := 617) (by decide +kernel)⟩
theorem lw_p26 : lw_okq (⟨"CairnShellsModel", "isDoubtful", "(I)Z"⟩, 7) := ⟨⟨by decide +kernel, by decide +kernel⟩, List.mem_of_getElem? (i := 506) (by decide +kernel), List.mem_of_getElem? (i := 621) (by decide +kernel), List.mem_of_getElem? (i := 622) (by decide +kernel)⟩
theorem lw_p27 : lw_okq (⟨"CairnShellsModel", "phases", "()[I"⟩, 7) := ⟨⟨by decide +kernel, by decide +kernel⟩, List.mem_of_getElem? (i := 506) (by decide +kernel), List.mem_of_getElem? (i := 625) (by decide +kernel), List.mem_of_getElem? (i := 626) (by decide +kernel)⟩
theorem lw_p28 : lw_okq (⟨"CairnShellsModel", "laterThan", "(I)I"⟩, 7) := ⟨⟨by decide +kernel, by decide +kernel⟩, List.mem_of_getElem? (i := 506) (by decide +kernel), List.mem_of_getElem? (i := 629) (by decide +kernel), List.mem_of_getElem? (i := 630) (by decide +kernel)⟩
theorem lw_p29 : lw_okq (⟨"CairnShellsModel", "season", "(I)I"⟩, 7) := ⟨⟨by decide +kernel, by decide +kernel⟩, List.mem_of_getElem? (i := 506) (by decide +kernel), List.mem_of_getElem? (i := 633) (by decide +kernel), List.mem_of_getElem? (i := 634) (by decide +kernel)⟩
theorem lw_p30 : lw_okq (⟨"CairnShellsModel", "all", "(II)I"⟩, 7) := ⟨⟨by decide +kernel, by decide +kernel⟩, List.mem_of_getElem? (i := 506) (by decide +kernel), List.mem_of_getElem? (i := 637) (by decide +kernel), List.mem_of_getElem? (i := 638) (by decide +kernel)⟩
theorem lw_p31 : lw_okq (⟨"CairnShellsModel", "orderAt", "(I)I"⟩, 7) := ⟨⟨by decide +kernel, by decide +kernel⟩, List.mem_of_getElem? (i := 506) (by decide +kernel), List.mem_of_getElem? (i := 649) (by decide +kernel), List.mem_of_getElem? (i := 650) (by decide +kernel)⟩
def lw_privs_2 : List (MethodName × Nat) := [(⟨"CairnShellsModel", "fail", "(I)I"⟩, 7), (⟨"CairnShellsModel", "isLayer", "(I)Z"⟩, 7), (⟨"CairnShellsModel", "isRefused", "(II)Z"⟩, 7), (⟨"CairnShellsModel", "andAbove", "(I)I"⟩, 7), (⟨"CairnShellsModel", "andBeneath", "(I)I"⟩, 7), (⟨"CairnShellsModel", "lay", "(II)V"⟩, 7), (⟨"CairnShellsModel", "from", "(I)I"⟩, 7), (⟨"CairnShellsModel", "isDated", "(I)Z"⟩, 7), (⟨"CairnShellsModel", "toldOf", "(II)I"⟩, 7), (⟨"CairnShellsModel", "to", "(I)I"⟩, 7), (⟨"CairnShellsModel", "isDoubtful", "(I)Z"⟩, 7), (⟨"CairnShellsModel", "phases", "()[I"⟩, 7), (⟨"CairnShellsModel", "laterThan", "(I)I"⟩, 7), (⟨"CairnShellsModel", "season", "(I)I"⟩, 7), (⟨"CairnShellsModel", "all", "(II)I"⟩, 7), (⟨"CairnShellsModel", "orderAt", "(I)I"⟩, 7)]
theorem lw_r2 : ∀ q ∈ lw_privs_2, lw_okq q := List.forall_mem_cons.mpr ⟨lw_p16, List.forall_mem_cons.mpr ⟨lw_p17, List.forall_mem_cons.mpr ⟨lw_p18, List.forall_mem_cons.mpr ⟨lw_p19, List.forall_mem_cons.mpr ⟨lw_p20, List.forall_mem_cons.mpr ⟨lw_p21, List.forall_mem_cons.mpr ⟨lw_p22, List.forall_mem_cons.mpr ⟨lw_p23, List.forall_mem_cons.mpr ⟨lw_p24, List.forall_mem_cons.mpr ⟨lw_p25, List.forall_mem_cons.mpr ⟨lw_p26, List.forall_mem_cons.mpr ⟨lw_p27, List.forall_mem_cons.mpr ⟨lw_p28, List.forall_mem_cons.mpr ⟨lw_p29, List.forall_mem_cons.mpr ⟨lw_p30, List.forall_mem_cons.mpr ⟨lw_p31, fun _ h => absurd h List.not_mem_nil⟩⟩⟩⟩⟩⟩⟩⟩⟩⟩⟩⟩⟩⟩⟩⟩
theorem lw_p32 : lw_okq (⟨"CairnShellsModel", "within", "(II)I"⟩, 7) := ⟨⟨by decide +kernel, by decide +kernel⟩, List.mem_of_getElem? (i := 506) (by decide +kernel), List.mem_of_getElem? (i := 657) (by decide +kernel), List.mem_of_getElem? (i := 658) (by decide +kernel)⟩
theorem lw_p33 : lw_okq (⟨"CairnShellsModel", "counted", "(I)I"⟩, 7) := ⟨⟨by decide +kernel, by decide +kernel⟩, List.mem_of_getElem? (i := 506) (by decide +kernel), List.mem_of_getElem? (i := 665) (by decide +kernel), List.mem_of_getElem? (i := 666) (by decide +kernel)⟩
theorem lw_p34 : lw_okq (⟨"CairnShellsModel", "doubtful", "()I"⟩, 7) := ⟨⟨by decide +kernel, by decide +kernel⟩, List.mem_of_getElem? (i := 506) (by decide +kernel), List.mem_of_getElem? (i := 669) (by decide +kernel), List.mem_of_getElem? (i := 670) (by decide +kernel)⟩
theorem lw_p35 : lw_okq (⟨"CairnShellsModel", "pairs", "()I"⟩, 7) := ⟨⟨by decide +kernel, by decide +kernel⟩, List.mem_of_getElem? (i := 506) (by decide +kernel), List.mem_of_getElem? (i := 673) (by decide +kernel), List.mem_of_getElem? (i := 674) (by decide +kernel)⟩
def lw_privs_3 : List (MethodName × Nat) := [(⟨"CairnShellsModel", "within", "(II)I"⟩, 7), (⟨"CairnShellsModel", "counted", "(I)I"⟩, 7), (⟨"CairnShellsModel", "doubtful", "()I"⟩, 7), (⟨"CairnShellsModel", "pairs", "()I"⟩, 7)]
theorem lw_r3 : ∀ q ∈ lw_privs_3, lw_okq q := List.forall_mem_cons.mpr ⟨lw_p32, List.forall_mem_cons.mpr ⟨lw_p33, List.forall_mem_cons.mpr ⟨lw_p34, List.forall_mem_cons.mpr ⟨lw_p35, fun _ h => absurd h List.not_mem_nil⟩⟩⟩⟩
def lw_privs : List (MethodName × Nat) := lw_privs_1 ++ (lw_privs_2 ++ (lw_privs_3))
def lw_tbl : List Cond := k2_sels lw_privs ++ tables_1
theorem lw_privs_ok : ∀ q ∈ lw_privs, lw_okq q := by
  show ∀ q ∈ lw_privs_1 ++ (lw_privs_2 ++ (lw_privs_3)), lw_okq q
  exact List.forall_mem_append.mpr ⟨lw_r1, List.forall_mem_append.mpr ⟨lw_r2, lw_r3⟩⟩
/-- the streams that the claim lets the run draw from -/
abbrev lw_cs : List Choice := [Jvm.Choice.named "NaN.bits"]
theorem lw_bits : nanBits ∈ lw_cs := by first | decide | exact List.mem_cons_self | simp [lw_cs, nanBits]
-- ===== end of PART A; then your names; then what follows =====
end
section
/-! ===== BEGIN words of one list among another's, by their places ===== -/
theorem goodIn_r {big : List Cond} (ws : List Cond) (ps : List Nat) (hp : ws = ps.filterMap (fun i => big[i]?)) (h : ws.all goodWord = true) : GoodIn big ws := by
  intro w hw
  have h1 := List.all_eq_true.mp h w hw
  rw [hp] at hw
  obtain ⟨i, -, hi⟩ := List.mem_filterMap.mp hw
  have hm : w ∈ big := by first | exact List.mem_of_getElem? hi | exact List.getElem?_mem hi
  exact ⟨hm, good_of_word h1⟩
theorem goodIn_app {big a b : List Cond} (ha : GoodIn big a) (hb : GoodIn big b) : GoodIn big (a ++ b) := fun w h => (List.mem_append.mp h).elim (ha w) (hb w)
theorem goodIn_ca {big a b : List Cond} {c : Cond} (ha : GoodIn big (c :: a)) (hb : GoodIn big b) : GoodIn big (c :: (a ++ b)) := fun w h => (List.mem_cons.mp h).elim (fun e => ha w (List.mem_cons.mpr (Or.inl e))) (fun h => (List.mem_append.mp h).elim (fun h => ha w (List.mem_cons.mpr (Or.inr h))) (hb w))
theorem goodIn_sub {big ws : List Cond} (hm : ∀ w ∈ ws, w ∈ big) (h : ws.all goodWord = true) : GoodIn big ws := fun w hw => ⟨hm w hw, good_of_word (List.all_eq_true.mp h w hw)⟩
/-! ===== END ===== -/

/-! ===== BEGIN exceptions that leave a method, and their catching by the caller (launches without stack traces) ===== -/
section VXA
/-! The laws vx_back, vx_callV, vx_callS, vx_callSW, vx_throw0, vx_throwS follow proofs of the library, with one case more: JvmDerived/Free/Laws.lean (Back.of_free), Shelf42/LK1.lean (callV, callS), Shelf/KitTraced.lean (throwNew0V, throwNewS). -/
/-- where a method has thrown q: the class by its name, the cell, what was written, the world -/
def vx_T (XC : String → State → State → Prop) (st : State) (q : Addr) (t : State) (mc ms : Nat) (free : Addr → Prop) : Prop :=
  ∃ (E : String) (ce : Cell) (L : List Loc), XC E st t ∧ t.heap[q]? = some ce ∧ ce.vm = .none ∧ st.vm.findClass E = some ce.cls ∧ st.WarmedH t.vm ∧ st.sameButNew ({ t with vm := st.vm } : State) L mc ms ∧ ∀ z ∈ L, free z.base
def vx_Q (Qc : Array Value → State → Outcome → State → Prop) (XC : String → State → State → Prop) (mc ms : Nat) (free : Addr → Prop) : Array Value → State → Outcome → State → Prop := fun a st o t =>
  (Qc a st o t ∧ ∃ L, FrameEnd st o t L mc ms ∧ ∀ q ∈ L, free q.base) ∨ ∃ q, o = .threw q ∧ vx_T XC st q t mc ms free
/-- a callee that returns or throws -/
def vx_Met (l : Launch) (y : MethodName) (ws : List Cond) (rm : Room) (Pc : Array Value → State → Prop) (Qc : Array Value → State → Outcome → State → Prop) (XC : String → State → State → Prop) (mc ms : Nat) (free : Addr → Prop) : Prop :=
  MetFree l y (headSpec ws rm) Pc (fun _ _ _ _ _ => True) (vx_Q Qc XC mc ms free)
def vx_Post (XC : String → State → State → Prop) (mc ms : Nat) (free : Addr → Prop) : Pt → Array Value → Addr → Pt → Prop := fun A a q B =>
  ∃ (g : JFrame) (mk : MethodId) (t : State) (L : List Loc) (E : String) (ce : Cell), B.U.heap = t.heap ∧ B.U.vm = t.vm ∧ XC E (A.U.calling g mk a) t ∧ t.heap[q]? = some ce ∧ ce.vm = .none ∧ A.U.vm.findClass E = some ce.cls ∧ B.locs = A.locs ++ L ∧ (∀ z ∈ L, free z.base) ∧ B.cells = A.cells + mc ∧ B.slots = A.slots + ms
def vx_Back (l : Launch) (R : Room) (p : Program) (e : Env) (below : List Frame) (s : State) (sargs : Array Value) (y : MethodName) (len W9 : Nat)
    (Pre : Pt → Array Value → Prop) (Post : Pt → Array Value → Option Value → Pt → Prop) (PostX : Pt → Array Value → Addr → Pt → Prop) : Prop :=
  ∀ (m : MethodId) (meth : Method) (c : Code) (A : Pt) (g : JFrame) (ig : Instr) (mk : MethodId) (a : Array Value),
    Stand p l e R s m sargs below meth c A.U A.locs A.cells A.slots → g.method = m → g.locals.size = c.maxLocals → decode c.code g.pc = .ok (ig, len) →
    2 * g.monitorRoom + (g.stack.map fun v => v.category).sum ≤ W9 → A.U.methodNamed? y = some mk → Pre A a →
    (∃ (v : Option Value) (B : Pt), Stand p l e R s m sargs below meth c B.U B.locs B.cells B.slots ∧ Post A a v B ∧
      Steps p.tables e below (doInvoke e (A.U.setTop g) [] mk a).1 (B.U.setTop { g with pc := g.pc + len, stack := v.toList ++ g.stack })) ∨
    (∃ (q : Addr) (B : Pt), Stand p l e R s m sargs below meth c B.U B.locs B.cells B.slots ∧ PostX A a q B ∧
      Steps p.tables e below (doInvoke e (A.U.setTop g) [] mk a).1 ((B.U.setTop g).pushFrame (.throwing q)))
section Payer
variable {l : Launch} {R : Room} {p : Program} {e : Env} {below : List Frame} {s : State} {sargs : Array Value} {y : MethodName} {len W9 : Nat}
theorem vx_back {ws : List Cond} {rm : Room} {Pc : Array Value → State → Prop} {Qc : Array Value → State → Outcome → State → Prop} {XC : String → State → State → Prop} {mc ms : Nat} {free : Addr → Prop} {bytes : ByteArray} {maxL : Nat} {ret : Option FieldType}
    (hM : vx_Met l y ws rm Pc Qc XC mc ms free) (hblind : FrameBlind Pc) (hrc : rm.cells = mc) (hrs : rm.slots = ms)
    (hframes : rm.frames + 1 ≤ R.frames) (hlocals : W9 + (maxL + 11) + rm.locals ≤ R.locals)
    (hws : ∀ w ∈ ws, ∀ a' U, s.WarmedH U.vm → w.before a' U = true) (hcode : Cond.code y bytes maxL ret ∈ ws) (hinit : ∀ a' U, s.WarmedH U.vm → (Cond.initialized y.cls).before a' U = true) :
    vx_Back l R p e below s sargs y len W9 (PreOf R mc ms Pc) (PostOf Qc mc ms free) (vx_Post XC mc ms free) := by
  intro m meth c A g ig mk a X hg hsize hdg hW hn hp
  have h1 : (headSpec ws rm).pre.before a A.U = true := atoms_intro fun w hw => hws w hw _ _ X.warmed
  have h2 : (Cond.code y bytes maxL ret).before a A.U = true := hws _ hcode _ _ X.warmed
  have h3 : (Cond.initialized y.cls).before a A.U = true := hinit _ _ X.warmed
  have h4 : A.cells + (headSpec ws rm).room.cells ≤ R.cells := by rw [show (headSpec ws rm).room.cells = mc from hrc]; exact hp.1
  have h5 : A.slots + (headSpec ws rm).room.slots ≤ R.slots := by rw [show (headSpec ws rm).room.slots = ms from hrs]; exact hp.2.1
  have hPc : Pc a (A.U.calling g mk a) := hblind _ _ _ _ hp.2.2
  obtain ⟨U, Ls, c0, s0⟩ := A
  dsimp only [Pt.U, Pt.locs, Pt.cells, Pt.slots] at h1 h2 h3 h4 h5 X hn hPc ⊢
  obtain ⟨methY, cY, hmY, hcY, -, hlY, -, -, -, -⟩ := Cond.code_spec hn h2
  obtain ⟨kY, hkY, -⟩ := className_of_methodNamed hn
  have hinitY : kY.init = .initialized := Cond.initialized_spec (findClass_of_methodNamed hn) hkY h3
  have h : At U g.method c below := by rw [hg]; exact X.here
  have hlocals9 : W9 + (maxL + 11) + (headSpec ws rm).room.locals ≤ R.locals := hlocals
  have happ : (headSpec ws rm).appliesLoose y e.platform (U.calling g mk a) = true :=
    Spec.appliesLoose_calling (g := g) h hdg hn hkY hinitY
      (X.room_calling (g := g) (R' := (headSpec ws rm).room) hsize hmY hcY hframes (by rw [hlY]; omega) h4 h5) h1
  obtain ⟨mid, hmid⟩ := h.above
  have hfr : (U.setTop g).frames = (.java g :: mid) ++ below := by rw [State.frames_setTop' g h.top, hmid]; rfl
  obtain ⟨o, s₂, hsteps, -, hend, hq⟩ := Steps.callFree hM p X.admits X.cas X.clock (acts := []) hfr happ hPc trivial
  have hq' : vx_Q Qc XC mc ms free a (U.calling g mk a) o s₂ := hq
  rw [State.frames_setTop' g h.top] at hend
  obtain ⟨g₀, hg0⟩ := Option.isSome_iff_exists.mp h.top
  obtain ⟨r, hr⟩ := State.topJava?_eq_some.mp hg0
  have hr' : (({ U with heap := s₂.heap, slotsUsed := s₂.slotsUsed } : State).setVm s₂.vm).frames = .java g₀ :: r := hr
  rcases hq' with ⟨hqc, L, hfe, hL⟩ | ⟨q, rfl, E, ce, L, hx, hce, hcv, hcl, hW₂, hsm, hL⟩
  · obtain ⟨⟨v, rfl⟩, hW₂, e2, q2, q3, q4, q5, q6⟩ := id hfe
    have e3 : s₂ = ({ (U.calling g mk a).setFrames s₂.frames with heap := s₂.heap, slotsUsed := s₂.slotsUsed } : State).setVm s₂.vm := by
      have : s₂ = ({ s₂ with vm := (U.calling g mk a).vm } : State).setVm s₂.vm := rfl
      rw [e2] at this
      exact this
    obtain ⟨c₂, i₂, len₂, hc₂, hd₂, hf₂⟩ := hend
    have hW' : U.WarmedH s₂.vm := hW₂
    have hcc : c₂ = c := by
      have h1 : s₂.code? g.method = U.code? g.method := by
        rw [State.code?_eq, State.code?_eq, hW'.alike.method?]
      exact Option.some.inj (hc₂.symm.trans (h1.trans h.code))
    subst hcc
    have hlen : len₂ = len := by rw [hdg] at hd₂; cases hd₂; rfl
    subst hlen
    have hs₂ : s₂ = (({ U with heap := s₂.heap, slotsUsed := s₂.slotsUsed } : State).setVm s₂.vm).setTop { g with pc := g.pc + len₂, stack := v.toList ++ g.stack } := by
      refine e3.trans ?_
      rw [hf₂, State.calling_eq h.top, State.setFrames_setFrames, State.setTop_of_frames _ hr', hr]
      rfl
    have hsame : U.sameButNew ({ U with heap := s₂.heap, slotsUsed := s₂.slotsUsed } : State) L mc ms := by
      refine ⟨?_, q2, q3, q4, q5, q6⟩
      obtain ⟨t, ht, -⟩ := State.frames_cons hr
      show ({ U with heap := s₂.heap, slotsUsed := s₂.slotsUsed } : State) = { U.setFrames U.frames with heap := s₂.heap, slotsUsed := s₂.slotsUsed }
      rw [State.setFrames_self ht]
    subst hg
    refine Or.inl ⟨v, ⟨(({ U with heap := s₂.heap, slotsUsed := s₂.slotsUsed } : State).setVm s₂.vm), Ls ++ L, c0 + mc, s0 + ms⟩,
      ⟨X.admits, X.cas, X.clock, X.frames, X.room, X.hears, X.method, X.code, (X.here.setHeapUsed s₂.heap s₂.slotsUsed).setVm hW'.alike, X.tail, State.WarmedH.trans X.warmed hW', X.limits, X.bytes, X.same.trans (hsame.setVm s.vm)⟩,
      ⟨g, mk, s₂, L, rfl, rfl, hqc, rfl, hL, rfl, rfl⟩, ?_⟩
    show Steps p.tables e below _ ((({ U with heap := s₂.heap, slotsUsed := s₂.slotsUsed } : State).setVm s₂.vm).setTop { g with pc := g.pc + len₂, stack := v.toList ++ g.stack })
    rw [← hs₂]
    exact hsteps
  · obtain ⟨e2, q2, q3, q4, q5, q6⟩ := id hsm
    have e3 : s₂ = ({ (U.calling g mk a).setFrames s₂.frames with heap := s₂.heap, slotsUsed := s₂.slotsUsed } : State).setVm s₂.vm := by
      have : s₂ = ({ s₂ with vm := (U.calling g mk a).vm } : State).setVm s₂.vm := rfl
      rw [e2] at this
      exact this
    have hf₂ : s₂.frames = .throwing q :: .java g :: U.frames.tail := hend
    have hW' : U.WarmedH s₂.vm := hW₂
    have hs₂ : s₂ = ((({ U with heap := s₂.heap, slotsUsed := s₂.slotsUsed } : State).setVm s₂.vm).setTop g).pushFrame (.throwing q) := by
      refine e3.trans ?_
      rw [hf₂, State.calling_eq h.top, State.setFrames_setFrames, State.pushFrame, State.frames_setTop _ hr', State.setTop_of_frames _ hr', State.setFrames_setFrames, hr]
      rfl
    have hsame : U.sameButNew ({ U with heap := s₂.heap, slotsUsed := s₂.slotsUsed } : State) L mc ms := by
      refine ⟨?_, q2, q3, q4, q5, q6⟩
      obtain ⟨t, ht, -⟩ := State.frames_cons hr
      show ({ U with heap := s₂.heap, slotsUsed := s₂.slotsUsed } : State) = { U.setFrames U.frames with heap := s₂.heap, slotsUsed := s₂.slotsUsed }
      rw [State.setFrames_self ht]
    subst hg
    refine Or.inr ⟨q, ⟨(({ U with heap := s₂.heap, slotsUsed := s₂.slotsUsed } : State).setVm s₂.vm), Ls ++ L, c0 + mc, s0 + ms⟩,
      ⟨X.admits, X.cas, X.clock, X.frames, X.room, X.hears, X.method, X.code, (X.here.setHeapUsed s₂.heap s₂.slotsUsed).setVm hW'.alike, X.tail, State.WarmedH.trans X.warmed hW', X.limits, X.bytes, X.same.trans (hsame.setVm s.vm)⟩,
      ⟨g, mk, s₂, L, E, ce, rfl, rfl, hx, hce, hcv, hcl, rfl, hL, rfl, rfl⟩, ?_⟩
    show Steps p.tables e below _ (((({ U with heap := s₂.heap, slotsUsed := s₂.slotsUsed } : State).setVm s₂.vm).setTop g).pushFrame (.throwing q))
    rw [← hs₂]
    exact hsteps
end Payer
section Calls
variable {p : Program} {l : Launch} {e : Env} {R : Room} {s : State} {m : MethodId} {args : Array Value} {below : List Frame} {meth : Method} {c : Code} {T : State} {locs : List Loc} {cells slots : Nat}
theorem vx_callV (X : Stand p l e R s m args below meth c T locs cells slots) (hexec : p.tables.exec = Jvm.exec) {own C : String} {index : Nat} {y : MethodName} {bytes : ByteArray} {maxL : Nat} {ret : Option FieldType}
    (hown : s.vm.findClass own = some m.cls) (hlink : (Cond.methodLink own index y).before args s = true) (hinst : (Cond.instanceMethod y).before args s = true) (hsel : (Cond.selects C y y).before args s = true)
    (hcode : (Cond.code y bytes maxL ret).before args s = true) (hy : y.cls ≠ "java/lang/invoke/MethodHandle" ∧ y.cls ≠ "java/lang/invoke/VarHandle")
    {W9 : Nat} {Pre : Pt → Array Value → Prop} {Post : Pt → Array Value → Option Value → Pt → Prop} {PostX : Pt → Array Value → Addr → Pt → Prop} (hK : vx_Back l R p e below s args y 3 W9 Pre Post PostX)
    {b : Addr} {cellB : Cell} (hcell : T.heap[b]? = some cellB) (hobj : cellB.vm.isStatics = false) (hcls : s.vm.findClass C = some cellB.cls)
    {g : JFrame} (hg : g.method = m) (hsize : g.locals.size = c.maxLocals) {argsL rest : List Value} (hlen : ∀ sig, parseMethodDescriptor y.desc = some sig → argsL.length = sig.parameters.length)
    (hstack : g.stack = argsL.reverse ++ .ref b :: rest) (hW : 2 * g.monitorRoom + (rest.map fun v => v.category).sum ≤ W9) (hdg : decode c.code g.pc = .ok (.invokevirtual index, 3))
    (hpre : ∀ vm₁, s.WarmedH vm₁ → Pre ⟨T.setVm vm₁, locs, cells, slots⟩ (Value.ref b :: argsL).toArray) :
    (∃ (v : Option Value) (vm₁ : Vm) (B : Pt), s.WarmedH vm₁ ∧ Stand p l e R s m args below meth c B.U B.locs B.cells B.slots ∧ Post ⟨T.setVm vm₁, locs, cells, slots⟩ (Value.ref b :: argsL).toArray v B ∧
      ∀ target, Steps p.tables e below (B.U.setTop { g with pc := g.pc + 3, stack := v.toList ++ rest }) target → Steps p.tables e below (T.setTop g) target) ∨
    (∃ (q : Addr) (vm₁ : Vm) (B : Pt), s.WarmedH vm₁ ∧ Stand p l e R s m args below meth c B.U B.locs B.cells B.slots ∧ PostX ⟨T.setVm vm₁, locs, cells, slots⟩ (Value.ref b :: argsL).toArray q B ∧
      Steps p.tables e below (T.setTop g) ((B.U.setTop { g with stack := rest }).pushFrame (.throwing q))) := by
  obtain ⟨mk, methM, hnamed, hmethM, hstM, habM⟩ := Cond.instanceMethod_spec hinst
  obtain ⟨methM', cM, hmethM', -, -, -, -, -, -, hsigM⟩ := Cond.code_spec hnamed hcode
  cases hmethM.symm.trans hmethM'
  obtain ⟨c2, r2, m2, q1, q2, q3, q4, kP, hkP, hkPi⟩ := Cond.selects_spec hsel
  cases hcls.symm.trans q1
  cases (State.methodFound?_of_named hnamed hy).symm.trans q2
  cases hnamed.symm.trans q3
  have hselP : selectMethod e.platform s.vm cellB.cls mk = .method mk := by rw [Launch.admits_selectMethod X.admits]; exact q4
  obtain ⟨vm₁, X₁, hstep₁⟩ := X.invokevirtual hexec hown hlink hnamed hmethM hstM hkP hkPi hy (a := b) (cell := cellB) hcell
    (fun z h => by rw [h] at hobj; cases hobj) hselP hmethM habM hkP hkPi (g := g) hg (argsL := argsL) (rest := rest) (hlen _ hsigM) hstack hdg
  rcases hK m meth c ⟨T.setVm vm₁, locs, cells, slots⟩ { g with stack := rest } (.invokevirtual index) mk (Value.ref b :: argsL).toArray X₁ hg hsize hdg hW (X₁.named hnamed) (hpre vm₁ X₁.warmed) with ⟨v, B, X', hpost, hsteps⟩ | ⟨q, B, X', hpost, hsteps⟩
  · exact Or.inl ⟨v, vm₁, B, X₁.warmed, X', hpost, fun target h => hstep₁ _ fun acts => by rw [doInvoke_state]; exact hsteps.trans h⟩
  · exact Or.inr ⟨q, vm₁, B, X₁.warmed, X', hpost, hstep₁ _ fun acts => by rw [doInvoke_state]; exact hsteps⟩
theorem vx_callS (X : Stand p l e R s m args below meth c T locs cells slots) (hexec : p.tables.exec = Jvm.exec) {own : String} {index : Nat} {y : MethodName} {bytes : ByteArray} {maxL : Nat} {ret : Option FieldType}
    (hown : s.vm.findClass own = some m.cls) (hlink : (Cond.methodLink own index y).before args s = true) (hstat : (Cond.static y).before args s = true) (hinit : (Cond.initialized y.cls).before args s = true)
    (hcode : (Cond.code y bytes maxL ret).before args s = true) (hy : y.cls ≠ "java/lang/invoke/MethodHandle" ∧ y.cls ≠ "java/lang/invoke/VarHandle")
    {W9 : Nat} {Pre : Pt → Array Value → Prop} {Post : Pt → Array Value → Option Value → Pt → Prop} {PostX : Pt → Array Value → Addr → Pt → Prop} (hK : vx_Back l R p e below s args y 3 W9 Pre Post PostX)
    {g : JFrame} (hg : g.method = m) (hsize : g.locals.size = c.maxLocals) {argsL rest : List Value} (hlen : ∀ sig, parseMethodDescriptor y.desc = some sig → argsL.length = sig.parameters.length)
    (hstack : g.stack = argsL.reverse ++ rest) (hW : 2 * g.monitorRoom + (rest.map fun v => v.category).sum ≤ W9) (hdg : decode c.code g.pc = .ok (.invokestatic index, 3))
    (hpre : ∀ vm₁, s.WarmedH vm₁ → Pre ⟨T.setVm vm₁, locs, cells, slots⟩ argsL.toArray) :
    (∃ (v : Option Value) (vm₁ : Vm) (B : Pt), s.WarmedH vm₁ ∧ Stand p l e R s m args below meth c B.U B.locs B.cells B.slots ∧ Post ⟨T.setVm vm₁, locs, cells, slots⟩ argsL.toArray v B ∧
      ∀ target, Steps p.tables e below (B.U.setTop { g with pc := g.pc + 3, stack := v.toList ++ rest }) target → Steps p.tables e below (T.setTop g) target) ∨
    (∃ (q : Addr) (vm₁ : Vm) (B : Pt), s.WarmedH vm₁ ∧ Stand p l e R s m args below meth c B.U B.locs B.cells B.slots ∧ PostX ⟨T.setVm vm₁, locs, cells, slots⟩ argsL.toArray q B ∧
      Steps p.tables e below (T.setTop g) ((B.U.setTop { g with stack := rest }).pushFrame (.throwing q))) := by
  obtain ⟨mk, hnamed⟩ := Cond.code_named hcode
  obtain ⟨methM, cM, hmethM, -, -, -, -, -, -, hsigM⟩ := Cond.code_spec hnamed hcode
  have hstatic : methM.isStatic = true := Cond.static_spec hnamed hmethM hstat
  obtain ⟨kP, hkP, -⟩ := className_of_methodNamed hnamed
  have hinitP : kP.init = .initialized := Cond.initialized_spec (findClass_of_methodNamed hnamed) hkP hinit
  obtain ⟨vm₁, X₁, hstep₁⟩ := X.invokestatic hexec hown hlink hnamed hmethM hstatic hkP hinitP hy (g := g) hg (argsL := argsL) (rest := rest) (hlen _ hsigM) hstack hdg
  rcases hK m meth c ⟨T.setVm vm₁, locs, cells, slots⟩ { g with stack := rest } (.invokestatic index) mk argsL.toArray X₁ hg hsize hdg hW (X₁.named hnamed) (hpre vm₁ X₁.warmed) with ⟨v, B, X', hpost, hsteps⟩ | ⟨q, B, X', hpost, hsteps⟩
  · exact Or.inl ⟨v, vm₁, B, X₁.warmed, X', hpost, fun target h => hstep₁ _ fun acts => by rw [doInvoke_state]; exact hsteps.trans h⟩
  · exact Or.inr ⟨q, vm₁, B, X₁.warmed, X', hpost, hstep₁ _ fun acts => by rw [doInvoke_state]; exact hsteps⟩
end Calls
theorem vx_cls {s : State} {T : State} {vm₁ : Vm} {E : String} {k : ClassId} (hW : s.WarmedH vm₁) (h : (T.setVm vm₁).vm.findClass E = some k) : s.vm.findClass E = some k := by
  have h1 : vm₁.findClass E = some k := h
  rw [hW.alike.findClass] at h1
  exact h1
/-- the method's frame g, with q thrown over it -/
def vx_W (p : Program) (l : Launch) (e : Env) (R : Room) (s : State) (m : MethodId) (args : Array Value) (below : List Frame) (meth : Method) (c : Code) (H : Heap) (locs : List Loc) (cells slots : Nat) (Q : State → Prop) (g : JFrame) (q : Addr) : Prop :=
  ∀ T : State, T.heap = H → Stand p l e R s m args below meth c T locs cells slots → ∃ t, Steps p.tables e below ((T.setTop g).pushFrame (.throwing q)) t ∧ Q t
def vx_Run (p : Program) (l : Launch) (e : Env) (R : Room) (s : State) (m : MethodId) (args : Array Value) (below : List Frame) (meth : Method) (c : Code) (H : Heap) (locs : List Loc) (cells slots mc ms : Nat) (g : JFrame) (rest : List Value) (Qa : State → Outcome → State → Prop) (XC : String → State → State → Prop) (free : Addr → Prop) : Prop :=
  ∀ T : State, T.heap = H → Stand p l e R s m args below meth c T locs cells slots →
    (∃ (v : Option Value) (st₀ t T' : State) (L : List Loc), st₀.heap = H ∧ Stand p l e R s m args below meth c T' (locs ++ L) (cells + mc) (slots + ms) ∧ (∀ q ∈ L, free q.base) ∧ T'.heap = t.heap ∧ T'.vm = t.vm ∧ Qa st₀ (.returned v) t ∧
      Goes p e below T g T' { g with pc := g.pc + 3, stack := v.toList ++ rest }) ∨
    (∃ (q : Addr) (st₀ t T' : State) (L : List Loc) (E : String) (ce : Cell), st₀.heap = H ∧ Stand p l e R s m args below meth c T' (locs ++ L) (cells + mc) (slots + ms) ∧ (∀ z ∈ L, free z.base) ∧ T'.heap = t.heap ∧ T'.vm = t.vm ∧ XC E st₀ t ∧ t.heap[q]? = some ce ∧ ce.vm = .none ∧ s.vm.findClass E = some ce.cls ∧
      Steps p.tables e below (T.setTop g) ((T'.setTop { g with stack := rest }).pushFrame (.throwing q)))
def vx_X {S : Type} (px : S → Prop) (B : String → S → State → Prop) (A : Nat → Prop) : String → State → State → Prop := fun E st t => ∃ u : S, px u ∧ B E u t ∧ va_F A st t
section Runs
variable {p : Program} {l : Launch} {e : Env} {R : Room} {s : State} {m : MethodId} {args : Array Value} {below : List Frame} {meth : Method} {c : Code} {H : Heap} {locs : List Loc} {cells slots : Nat}
variable {y : MethodName} {bytes cc : ByteArray} {maxL nL mc ms n index : Nat} {ret : Option FieldType} {ws : List Cond} {rm : Room} {Pc : Array Value → State → Prop} {Qc : Array Value → State → Outcome → State → Prop} {XC : String → State → State → Prop} {free : Addr → Prop} {Ts : List Cond} {own C : String} {b : Addr} {As rest : List Value} {g : JFrame}
theorem vx_callBack (cb : CallB R s args own index y bytes maxL ret ws rm mc ms n) (hM : vx_Met l y ws rm Pc Qc XC mc ms free) (hbl : FrameBlind Pc) : vx_Back l R p e below s args y 3 8 (PreOf R mc ms Pc) (PostOf Qc mc ms free) (vx_Post XC mc ms free) := by
  obtain ⟨hrc, hrs, hfr, hlo, hws, hcw, -, hini, -⟩ := cb
  exact vx_back (bytes := bytes) (maxL := maxL) (ret := ret) hM hbl hrc hrs hfr hlo hws hcw (fun a' U hW => word_at hW (Or.inl (by first | rfl | simp [Cond.onTables, Cond.keeps, Cond.steady])) hini)
theorem vx_runV (S : CallFix p m c cc nL s args Ts own) (hM : vx_Met l y ws rm Pc Qc XC mc ms free) (cw : CallW R s args own C index y bytes maxL ret ws rm mc ms n) (hp : PreV s H C b Pc As)
    (hg : g.method = m) (hn : As.length = n) (hsize : g.locals.size = nL) (hstack : g.stack = As.reverse ++ .ref b :: rest) (hW : 2 * g.monitorRoom + (rest.map fun v => v.category).sum ≤ 8) (hdg : decode cc g.pc = .ok (.invokevirtual index, 3)) (hf : cells + mc ≤ R.cells ∧ slots + ms ≤ R.slots) :
    vx_Run p l e R s m args below meth c H locs cells slots mc ms g rest (Qc (Value.ref b :: As).toArray) XC free := by
  have hK : vx_Back l R p e below s args y 3 8 (PreOf R mc ms Pc) (PostOf Qc mc ms free) (vx_Post XC mc ms free) := vx_callBack cw.1 hM hp.1
  obtain ⟨⟨-, -, -, -, -, -, hcode, -, hy, hlen, hl⟩, hin, hse⟩ := cw
  obtain ⟨hx, hb, hml, ho, -⟩ := S
  obtain ⟨-, ⟨cellB, hcB, hoB, hclB⟩, hPc⟩ := hp
  intro T hT X
  rcases vx_callV X hx (C := C) (bytes := bytes) (maxL := maxL) (ret := ret) ho hl hin hse hcode hy hK (by rw [hT]; exact hcB) hoB hclB hg (hsize.trans hml.symm) (argsL := As) (rest := rest) (fun sig h => hn.trans (hlen sig h)) hstack hW (by rw [hb]; exact hdg)
    (fun vm₁ hW₁ => ⟨hf.1, hf.2, hPc (T.setVm vm₁) hT hW₁⟩) with ⟨v, vm₁, ⟨U', l2, c2, s2⟩, hW₁, X', ⟨g', mk, t, L, e1, e2, hq, h1, hL, h2, h3⟩, st⟩ | ⟨q, vm₁, ⟨U', l2, c2, s2⟩, hW₁, X', ⟨g', mk, t, L, E, ce, e1, e2, hq, hce, hcv, hcl, h1, hL, h2, h3⟩, st⟩
  · dsimp only [Pt.U, Pt.locs, Pt.cells, Pt.slots] at X' e1 e2 h1 h2 h3 st
    subst h1; subst h2; subst h3
    exact Or.inl ⟨v, (T.setVm vm₁).calling g' mk (Value.ref b :: As).toArray, t, U', L, hT, X', hL, e1, e2, hq, st⟩
  · dsimp only [Pt.U, Pt.locs, Pt.cells, Pt.slots] at X' e1 e2 h1 h2 h3 st hcl
    subst h1; subst h2; subst h3
    exact Or.inr ⟨q, (T.setVm vm₁).calling g' mk (Value.ref b :: As).toArray, t, U', L, E, ce, hT, X', hL, e1, e2, hq, hce, hcv, vx_cls hW₁ hcl, st⟩
theorem vx_runS (S : CallFix p m c cc nL s args Ts own) (hM : vx_Met l y ws rm Pc Qc XC mc ms free) (cw : CallB R s args own index y bytes maxL ret ws rm mc ms n ∧ (Cond.static y).before args s = true) (hp : PreS s H Pc As)
    (hg : g.method = m) (hn : As.length = n) (hsize : g.locals.size = nL) (hstack : g.stack = As.reverse ++ rest) (hW : 2 * g.monitorRoom + (rest.map fun v => v.category).sum ≤ 8) (hdg : decode cc g.pc = .ok (.invokestatic index, 3)) (hf : cells + mc ≤ R.cells ∧ slots + ms ≤ R.slots) :
    vx_Run p l e R s m args below meth c H locs cells slots mc ms g rest (Qc As.toArray) XC free := by
  have hK : vx_Back l R p e below s args y 3 8 (PreOf R mc ms Pc) (PostOf Qc mc ms free) (vx_Post XC mc ms free) := vx_callBack cw.1 hM hp.1
  obtain ⟨⟨-, -, -, -, -, -, hcode, hini, hy, hlen, hl⟩, hstt⟩ := cw
  obtain ⟨hx, hb, hml, ho, -⟩ := S
  intro T hT X
  rcases vx_callS X hx (bytes := bytes) (maxL := maxL) (ret := ret) ho hl hstt hini hcode hy hK hg (hsize.trans hml.symm) (argsL := As) (rest := rest) (fun sig h => hn.trans (hlen sig h)) hstack hW (by rw [hb]; exact hdg)
    (fun vm₁ hW₁ => ⟨hf.1, hf.2, hp.2 (T.setVm vm₁) hT hW₁⟩) with ⟨v, vm₁, ⟨U', l2, c2, s2⟩, hW₁, X', ⟨g', mk, t, L, e1, e2, hq, h1, hL, h2, h3⟩, st⟩ | ⟨q, vm₁, ⟨U', l2, c2, s2⟩, hW₁, X', ⟨g', mk, t, L, E, ce, e1, e2, hq, hce, hcv, hcl, h1, hL, h2, h3⟩, st⟩
  · dsimp only [Pt.U, Pt.locs, Pt.cells, Pt.slots] at X' e1 e2 h1 h2 h3 st
    subst h1; subst h2; subst h3
    exact Or.inl ⟨v, (T.setVm vm₁).calling g' mk As.toArray, t, U', L, hT, X', hL, e1, e2, hq, st⟩
  · dsimp only [Pt.U, Pt.locs, Pt.cells, Pt.slots] at X' e1 e2 h1 h2 h3 st hcl
    subst h1; subst h2; subst h3
    exact Or.inr ⟨q, (T.setVm vm₁).calling g' mk As.toArray, t, U', L, E, ce, hT, X', hL, e1, e2, hq, hce, hcv, vx_cls hW₁ hcl, st⟩
end Runs
section Rows
variable {p : Program} {l : Launch} {e : Env} {R : Room} {s : State} {m : MethodId} {args : Array Value} {below : List Frame} {meth : Method} {c : Code} {H : Heap} {locs : List Loc} {cells slots : Nat} {Q : State → Prop}
variable {mc ms : Nat} {free : Addr → Prop} {A0 A1 : Nat → Prop} {H0 : Heap} {a : Array Value} {pc : Nat} {ls : Array Slot} {st0 rest : List Value}
theorem vx_keep {st₀ t T' : State} {L : List Loc} (h0 : st₀.heap = H) (e1 : T'.heap = t.heap) (hS : va_S A0 H0 H locs) (hA : ∀ q, q < H.size → A1 q → A0 q) (hf : ∀ q, free q → A0 q) (hL : ∀ q ∈ L, free q.base) (hF : va_F A1 st₀ t) :
    H.size ≤ T'.heap.size ∧ (∀ q : Nat, q < H.size → ¬ A1 q → T'.heap[q]? = H[q]?) ∧ va_S A0 H0 T'.heap (locs ++ L) := by
  obtain ⟨hz, hk⟩ := hF
  rw [h0] at hz hk
  exact ⟨by rw [e1]; exact hz, fun q h1 h2 => by rw [e1]; exact hk q h1 h2,
    ⟨Nat.le_trans hS.1 (by rw [e1]; exact hz), fun q h1 h2 => by rw [e1, hk q (Nat.lt_of_lt_of_le h1 hS.1) (fun z => h2 (hA q (Nat.lt_of_lt_of_le h1 hS.1) z))]; exact hS.2.1 q h1 h2, fun q hq => by
      rcases List.mem_append.mp hq with h | h
      · exact hS.2.2 q h
      · exact hf _ (hL q h)⟩⟩
theorem vx_calli {S SX : Type} {post : Int32 → S → Prop} {px : SX → Prop} {B : S → State → Prop} {BX : String → SX → State → Prop} {AX : Nat → Prop} (hr : vx_Run p l e R s m args below meth c H locs cells slots mc ms (F0 m pc ls st0) rest (va_Qi post B A1 a) (vx_X px BX AX) free) (hS : va_S A0 H0 H locs) (hA : ∀ q, q < H.size → A1 q → A0 q) (hf : ∀ q, free q → A0 q) (hAX : ∀ q, q < H.size → AX q → A0 q)
    (kx : ∀ (E : String) (ce : Cell) (q9 : Addr) (u : SX) (t : State) (H1 : Heap) (locs1 : List Loc), t.heap = H1 → s.vm.Alike t.vm → px u → BX E u t → H.size ≤ H1.size → (∀ q : Nat, q < H.size → ¬ AX q → H1[q]? = H[q]?) → va_S A0 H0 H1 locs1 → H1[q9]? = some ce → ce.vm = .none → s.vm.findClass E = some ce.cls → vx_W p l e R s m args below meth c H1 locs1 (cells + mc) (slots + ms) Q (F0 m pc ls rest) q9)
    (kk : ∀ (r : Int32) (u : S) (t : State) (H1 : Heap) (locs1 : List Loc), t.heap = H1 → s.vm.Alike t.vm → post r u → B u t → H.size ≤ H1.size → (∀ q : Nat, q < H.size → ¬ A1 q → H1[q]? = H[q]?) → va_S A0 H0 H1 locs1 → W p l e R s m args below meth c H1 locs1 (cells + mc) (slots + ms) Q (F0 m (pc + 3) ls (.int r :: rest))) : W p l e R s m args below meth c H locs cells slots Q (F0 m pc ls st0) := by
  intro T hT X
  rcases hr T hT X with ⟨v, st₀, t, T', L, h0, X', hL, e1, e2, ⟨⟨r, u, hv, hp, hb⟩, hF⟩, st⟩ | ⟨q, st₀, t, T', L, E, ce, h0, X', hL, e1, e2, ⟨u, hp, hb, hF⟩, hce, hcv, hcl, st⟩
  · cases hv
    obtain ⟨k1, k2, k3⟩ := vx_keep h0 e1 hS hA hf hL hF
    obtain ⟨t2, a1, b1⟩ := kk r u t T'.heap (locs ++ L) e1.symm (by rw [← e2]; exact X'.warmed.alike) hp hb k1 k2 k3 T' rfl X'
    exact ⟨t2, st t2 a1, b1⟩
  · obtain ⟨k1, k2, k3⟩ := vx_keep h0 e1 hS hAX hf hL hF
    obtain ⟨t2, a1, b1⟩ := kx E ce q u t T'.heap (locs ++ L) e1.symm (by rw [← e2]; exact X'.warmed.alike) hp hb k1 k2 k3 (by rw [e1]; exact hce) hcv hcl T' rfl X'
    exact ⟨t2, st.trans a1, b1⟩
theorem vx_calll {S SX : Type} {post : Int64 → S → Prop} {px : SX → Prop} {B : S → State → Prop} {BX : String → SX → State → Prop} {AX : Nat → Prop} (hr : vx_Run p l e R s m args below meth c H locs cells slots mc ms (F0 m pc ls st0) rest (va_Ql post B A1 a) (vx_X px BX AX) free) (hS : va_S A0 H0 H locs) (hA : ∀ q, q < H.size → A1 q → A0 q) (hf : ∀ q, free q → A0 q) (hAX : ∀ q, q < H.size → AX q → A0 q)
    (kx : ∀ (E : String) (ce : Cell) (q9 : Addr) (u : SX) (t : State) (H1 : Heap) (locs1 : List Loc), t.heap = H1 → s.vm.Alike t.vm → px u → BX E u t → H.size ≤ H1.size → (∀ q : Nat, q < H.size → ¬ AX q → H1[q]? = H[q]?) → va_S A0 H0 H1 locs1 → H1[q9]? = some ce → ce.vm = .none → s.vm.findClass E = some ce.cls → vx_W p l e R s m args below meth c H1 locs1 (cells + mc) (slots + ms) Q (F0 m pc ls rest) q9)
    (kk : ∀ (r : Int64) (u : S) (t : State) (H1 : Heap) (locs1 : List Loc), t.heap = H1 → s.vm.Alike t.vm → post r u → B u t → H.size ≤ H1.size → (∀ q : Nat, q < H.size → ¬ A1 q → H1[q]? = H[q]?) → va_S A0 H0 H1 locs1 → W p l e R s m args below meth c H1 locs1 (cells + mc) (slots + ms) Q (F0 m (pc + 3) ls (.long r :: rest))) : W p l e R s m args below meth c H locs cells slots Q (F0 m pc ls st0) := by
  intro T hT X
  rcases hr T hT X with ⟨v, st₀, t, T', L, h0, X', hL, e1, e2, ⟨⟨r, u, hv, hp, hb⟩, hF⟩, st⟩ | ⟨q, st₀, t, T', L, E, ce, h0, X', hL, e1, e2, ⟨u, hp, hb, hF⟩, hce, hcv, hcl, st⟩
  · cases hv
    obtain ⟨k1, k2, k3⟩ := vx_keep h0 e1 hS hA hf hL hF
    obtain ⟨t2, a1, b1⟩ := kk r u t T'.heap (locs ++ L) e1.symm (by rw [← e2]; exact X'.warmed.alike) hp hb k1 k2 k3 T' rfl X'
    exact ⟨t2, st t2 a1, b1⟩
  · obtain ⟨k1, k2, k3⟩ := vx_keep h0 e1 hS hAX hf hL hF
    obtain ⟨t2, a1, b1⟩ := kx E ce q u t T'.heap (locs ++ L) e1.symm (by rw [← e2]; exact X'.warmed.alike) hp hb k1 k2 k3 (by rw [e1]; exact hce) hcv hcl T' rfl X'
    exact ⟨t2, st.trans a1, b1⟩
theorem vx_callf {S SX : Type} {post : UInt32 → S → Prop} {px : SX → Prop} {B : S → State → Prop} {BX : String → SX → State → Prop} {AX : Nat → Prop} (hr : vx_Run p l e R s m args below meth c H locs cells slots mc ms (F0 m pc ls st0) rest (va_Qf post B A1 a) (vx_X px BX AX) free) (hS : va_S A0 H0 H locs) (hA : ∀ q, q < H.size → A1 q → A0 q) (hf : ∀ q, free q → A0 q) (hAX : ∀ q, q < H.size → AX q → A0 q)
    (kx : ∀ (E : String) (ce : Cell) (q9 : Addr) (u : SX) (t : State) (H1 : Heap) (locs1 : List Loc), t.heap = H1 → s.vm.Alike t.vm → px u → BX E u t → H.size ≤ H1.size → (∀ q : Nat, q < H.size → ¬ AX q → H1[q]? = H[q]?) → va_S A0 H0 H1 locs1 → H1[q9]? = some ce → ce.vm = .none → s.vm.findClass E = some ce.cls → vx_W p l e R s m args below meth c H1 locs1 (cells + mc) (slots + ms) Q (F0 m pc ls rest) q9)
    (kk : ∀ (r : UInt32) (u : S) (t : State) (H1 : Heap) (locs1 : List Loc), t.heap = H1 → s.vm.Alike t.vm → post r u → B u t → H.size ≤ H1.size → (∀ q : Nat, q < H.size → ¬ A1 q → H1[q]? = H[q]?) → va_S A0 H0 H1 locs1 → W p l e R s m args below meth c H1 locs1 (cells + mc) (slots + ms) Q (F0 m (pc + 3) ls (.float r :: rest))) : W p l e R s m args below meth c H locs cells slots Q (F0 m pc ls st0) := by
  intro T hT X
  rcases hr T hT X with ⟨v, st₀, t, T', L, h0, X', hL, e1, e2, ⟨⟨r, u, hv, hp, hb⟩, hF⟩, st⟩ | ⟨q, st₀, t, T', L, E, ce, h0, X', hL, e1, e2, ⟨u, hp, hb, hF⟩, hce, hcv, hcl, st⟩
  · cases hv
    obtain ⟨k1, k2, k3⟩ := vx_keep h0 e1 hS hA hf hL hF
    obtain ⟨t2, a1, b1⟩ := kk r u t T'.heap (locs ++ L) e1.symm (by rw [← e2]; exact X'.warmed.alike) hp hb k1 k2 k3 T' rfl X'
    exact ⟨t2, st t2 a1, b1⟩
  · obtain ⟨k1, k2, k3⟩ := vx_keep h0 e1 hS hAX hf hL hF
    obtain ⟨t2, a1, b1⟩ := kx E ce q u t T'.heap (locs ++ L) e1.symm (by rw [← e2]; exact X'.warmed.alike) hp hb k1 k2 k3 (by rw [e1]; exact hce) hcv hcl T' rfl X'
    exact ⟨t2, st.trans a1, b1⟩
theorem vx_calld {S SX : Type} {post : UInt64 → S → Prop} {px : SX → Prop} {B : S → State → Prop} {BX : String → SX → State → Prop} {AX : Nat → Prop} (hr : vx_Run p l e R s m args below meth c H locs cells slots mc ms (F0 m pc ls st0) rest (va_Qd post B A1 a) (vx_X px BX AX) free) (hS : va_S A0 H0 H locs) (hA : ∀ q, q < H.size → A1 q → A0 q) (hf : ∀ q, free q → A0 q) (hAX : ∀ q, q < H.size → AX q → A0 q)
    (kx : ∀ (E : String) (ce : Cell) (q9 : Addr) (u : SX) (t : State) (H1 : Heap) (locs1 : List Loc), t.heap = H1 → s.vm.Alike t.vm → px u → BX E u t → H.size ≤ H1.size → (∀ q : Nat, q < H.size → ¬ AX q → H1[q]? = H[q]?) → va_S A0 H0 H1 locs1 → H1[q9]? = some ce → ce.vm = .none → s.vm.findClass E = some ce.cls → vx_W p l e R s m args below meth c H1 locs1 (cells + mc) (slots + ms) Q (F0 m pc ls rest) q9)
    (kk : ∀ (r : UInt64) (u : S) (t : State) (H1 : Heap) (locs1 : List Loc), t.heap = H1 → s.vm.Alike t.vm → post r u → B u t → H.size ≤ H1.size → (∀ q : Nat, q < H.size → ¬ A1 q → H1[q]? = H[q]?) → va_S A0 H0 H1 locs1 → W p l e R s m args below meth c H1 locs1 (cells + mc) (slots + ms) Q (F0 m (pc + 3) ls (.double r :: rest))) : W p l e R s m args below meth c H locs cells slots Q (F0 m pc ls st0) := by
  intro T hT X
  rcases hr T hT X with ⟨v, st₀, t, T', L, h0, X', hL, e1, e2, ⟨⟨r, u, hv, hp, hb⟩, hF⟩, st⟩ | ⟨q, st₀, t, T', L, E, ce, h0, X', hL, e1, e2, ⟨u, hp, hb, hF⟩, hce, hcv, hcl, st⟩
  · cases hv
    obtain ⟨k1, k2, k3⟩ := vx_keep h0 e1 hS hA hf hL hF
    obtain ⟨t2, a1, b1⟩ := kk r u t T'.heap (locs ++ L) e1.symm (by rw [← e2]; exact X'.warmed.alike) hp hb k1 k2 k3 T' rfl X'
    exact ⟨t2, st t2 a1, b1⟩
  · obtain ⟨k1, k2, k3⟩ := vx_keep h0 e1 hS hAX hf hL hF
    obtain ⟨t2, a1, b1⟩ := kx E ce q u t T'.heap (locs ++ L) e1.symm (by rw [← e2]; exact X'.warmed.alike) hp hb k1 k2 k3 (by rw [e1]; exact hce) hcv hcl T' rfl X'
    exact ⟨t2, st.trans a1, b1⟩
theorem vx_callv {S SX : Type} {post : S → Prop} {px : SX → Prop} {B : S → State → Prop} {BX : String → SX → State → Prop} {AX : Nat → Prop} (hr : vx_Run p l e R s m args below meth c H locs cells slots mc ms (F0 m pc ls st0) rest (va_Qv post B A1 a) (vx_X px BX AX) free) (hS : va_S A0 H0 H locs) (hA : ∀ q, q < H.size → A1 q → A0 q) (hf : ∀ q, free q → A0 q) (hAX : ∀ q, q < H.size → AX q → A0 q)
    (kx : ∀ (E : String) (ce : Cell) (q9 : Addr) (u : SX) (t : State) (H1 : Heap) (locs1 : List Loc), t.heap = H1 → s.vm.Alike t.vm → px u → BX E u t → H.size ≤ H1.size → (∀ q : Nat, q < H.size → ¬ AX q → H1[q]? = H[q]?) → va_S A0 H0 H1 locs1 → H1[q9]? = some ce → ce.vm = .none → s.vm.findClass E = some ce.cls → vx_W p l e R s m args below meth c H1 locs1 (cells + mc) (slots + ms) Q (F0 m pc ls rest) q9)
    (kk : ∀ (u : S) (t : State) (H1 : Heap) (locs1 : List Loc), t.heap = H1 → s.vm.Alike t.vm → post u → B u t → H.size ≤ H1.size → (∀ q : Nat, q < H.size → ¬ A1 q → H1[q]? = H[q]?) → va_S A0 H0 H1 locs1 → W p l e R s m args below meth c H1 locs1 (cells + mc) (slots + ms) Q (F0 m (pc + 3) ls (rest))) : W p l e R s m args below meth c H locs cells slots Q (F0 m pc ls st0) := by
  intro T hT X
  rcases hr T hT X with ⟨v, st₀, t, T', L, h0, X', hL, e1, e2, ⟨⟨u, hv, hp, hb⟩, hF⟩, st⟩ | ⟨q, st₀, t, T', L, E, ce, h0, X', hL, e1, e2, ⟨u, hp, hb, hF⟩, hce, hcv, hcl, st⟩
  · cases hv
    obtain ⟨k1, k2, k3⟩ := vx_keep h0 e1 hS hA hf hL hF
    obtain ⟨t2, a1, b1⟩ := kk u t T'.heap (locs ++ L) e1.symm (by rw [← e2]; exact X'.warmed.alike) hp hb k1 k2 k3 T' rfl X'
    exact ⟨t2, st t2 a1, b1⟩
  · obtain ⟨k1, k2, k3⟩ := vx_keep h0 e1 hS hAX hf hL hF
    obtain ⟨t2, a1, b1⟩ := kx E ce q u t T'.heap (locs ++ L) e1.symm (by rw [← e2]; exact X'.warmed.alike) hp hb k1 k2 k3 (by rw [e1]; exact hce) hcv hcl T' rfl X'
    exact ⟨t2, st.trans a1, b1⟩
/-- caught by the row x of this method's table; the rows ahead don't take it -/
theorem vx_catch {own name : String} {E : String} {ce : Cell} {q : Addr} (hown : s.vm.findClass own = some m.cls) (pre : List ExceptionTableEntry) (x : ExceptionTableEntry) (suf : List ExceptionTableEntry) (hsplit : c.exceptionTable.toList = pre ++ x :: suf)
    (hpass : ∀ z ∈ pre, covers z pc = false ∨ (z.catchType ≠ 0 ∧ ∃ nm : String, (Cond.classLink own z.catchType nm).before args s = true ∧ va_Nc E nm s)) (hx : covers x pc = true) (h0 : x.catchType ≠ 0)
    (hlink : (Cond.classLink own x.catchType name).before args s = true) (hcast : (Cond.castable E name).before args s = true) (hcell : H[q]? = some ce) (hv : ce.vm = .none) (hcl : s.vm.findClass E = some ce.cls)
    (kk : W p l e R s m args below meth c H locs cells slots Q (F0 m x.handlerPc ls [.ref q])) : vx_W p l e R s m args below meth c H locs cells slots Q (F0 m pc ls rest) q := by
  intro T hT X
  have hpl : e.platform.magicAccessors = ({} : Platform).magicAccessors := by rw [X.admits.platform]
  obtain ⟨c3, c4, hc3, hc4, hasg⟩ := Cond.castable_spec hcast
  cases Option.some.inj (hc3.symm.trans hcl)
  obtain ⟨c5, hc5, hcl5⟩ := Cond.classLink_spec hown hlink e.platform hpl
  cases Option.some.inj (hc4.symm.trans hc5)
  obtain ⟨vm', X', st⟩ := X.thenCaughtThrough q (g := F0 m pc ls rest) rfl (Steps.refl _) (by rw [hT]; exact hcell) (by rw [hv]; rfl) (by obtain ⟨k9, h9, -⟩ := Vm.findClass_spec hcl; exact ⟨k9, h9⟩) pre x suf hsplit
    (fun z hz => by
      rcases hpass z hz with h | ⟨hz0, nm, hl1, hn1⟩
      · exact Or.inl h
      · obtain ⟨c6, hc6, hcl6⟩ := Cond.classLink_spec hown hl1 e.platform hpl
        obtain ⟨a8, b8, h1, h2, h3⟩ := hn1
        cases Option.some.inj (h1.symm.trans hcl)
        cases Option.some.inj (h2.symm.trans hc6)
        exact Or.inr ⟨hz0, _, hcl6, h3⟩) hx (Or.inr ⟨h0, c4, hcl5, hasg⟩)
  obtain ⟨t, a1, b1⟩ := kk (T.setVm vm') hT X'
  exact ⟨t, st.trans a1, b1⟩
end Rows
section Ends
variable {p : Program} {l : Launch} {e : Env} {R : Room} {s : State} {m : MethodId} {args : Array Value} {below : List Frame} {meth : Method} {c : Code} {H : Heap} {locs : List Loc} {cells slots : Nat} {Q : State → Prop}
variable {mc ms : Nat} {free : Addr → Prop} {A0 A1 : Nat → Prop} {H0 : Heap} {a : Array Value} {ls : Array Slot} {st0 rest : List Value}
variable {Qc : Array Value → State → Outcome → State → Prop} {XC : String → State → State → Prop}
/-- what a body that may throw owes at its end -/
def vx_MQ (below : List Frame) (Qc : Array Value → State → Outcome → State → Prop) (XC : String → State → State → Prop) (a : Array Value) (s : State) (mc ms : Nat) (free : Addr → Prop) : State → Prop := fun t =>
  ∃ o, t.status = .running ∧ Ended t below o ∧ vx_Q Qc XC mc ms free a s o t
theorem vx_ret {g : JFrame} {mc ms : Nat} (k : W p l e R s m args below meth c H locs cells slots (MQ below Qc args s mc ms free) g) : W p l e R s m args below meth c H locs cells slots (vx_MQ below Qc XC args s mc ms free) g := by
  intro T hT X
  obtain ⟨t, a1, o, b1, b2, b3, b4⟩ := k T hT X
  exact ⟨t, a1, o, b1, b2, Or.inl ⟨b3, b4⟩⟩
/-- not caught here: it goes on to the caller -/
theorem vx_widen {g : JFrame} {q : Addr} {k n : Nat} (h1 : cells ≤ k) (h2 : slots ≤ n) (kk : vx_W p l e R s m args below meth c H locs k n Q g q) : vx_W p l e R s m args below meth c H locs cells slots Q g q := fun T hT X => kk T hT (stand_widen X h1 h2)
theorem vx_out {pc : Nat} {E : String} {ce : Cell} {q : Addr} {mc ms : Nat} (hout : ∀ x ∈ c.exceptionTable.toList, covers x pc = false) (hlocks : meth.locks = false) (hcell : H[q]? = some ce) (hv : ce.vm = .none) (hcl : s.vm.findClass E = some ce.cls)
    (hx : ∀ t : State, t.heap = H → s.vm.Alike t.vm → XC E s t) (hf : ∀ z ∈ locs, free z.base) (hc : cells ≤ mc) (hs : slots ≤ ms) :
    vx_W p l e R s m args below meth c H locs cells slots (vx_MQ below Qc XC args s mc ms free) (F0 m pc ls rest) q := by
  intro T hT X
  obtain ⟨st1, hrun, hend, hW, hsm⟩ := X.leaveThrown q (g := F0 m pc ls rest) rfl rfl rfl hout hlocks
  have hcell9 : (T.setFrames (.throwing q :: below)).heap[q]? = some ce := by
    show T.heap[q]? = some ce
    rw [hT]; exact hcell
  exact ⟨_, st1, .threw q, hrun, hend, Or.inr ⟨q, rfl, E, ce, locs, hx _ hT hW.alike, hcell9, hv, hcl, hW, hsm.mono hc hs, hf⟩⟩
theorem vx_frame {U : State} {k n : Nat} (h : s.sameButNew ({ U with vm := s.vm } : State) locs k n) : s.heap.size ≤ U.heap.size ∧ ∀ q : Nat, q < s.heap.size → (∀ z ∈ locs, z.base ≠ q) → U.heap[q]? = s.heap[q]? := by
  obtain ⟨-, h2, -, -, -, h6⟩ := h
  refine ⟨h2, fun q hq hz => ?_⟩
  obtain ⟨c9, e1, e2, e3, e4⟩ := h6 q _ (Array.getElem?_eq_getElem hq)
  have hs : c9.slots = (s.heap[q]).slots := Array.ext_getElem? fun i => e4 i fun hm => hz _ hm rfl
  have h9 : c9 = s.heap[q] := by
    rw [hs] at e2
    exact e2
  have e5 : U.heap[q]? = some c9 := e1
  rw [e5, h9, Array.getElem?_eq_getElem hq]
/-- the words of a throw but the four that speak of the heap -/
def vx_no (w : Cond) : Bool := decide (w ≠ .isRef (.static Bundle.tN "UNASSIGNED_STACK" Bundle.steD)) && decide (w ≠ .isRef (.static Bundle.tN "SUPPRESSED_SENTINEL" Bundle.listD)) && decide (w ≠ .laysStatic Bundle.tN "UNASSIGNED_STACK" Bundle.steD) && decide (w ≠ .laysStatic Bundle.tN "SUPPRESSED_SENTINEL" Bundle.listD)
def vx_at0 (own : String) (ic : Nat) (X : String) (names : List String) : List Cond := (Bundle.ownAtoms0 own ic X names).filter vx_no
def vx_atS (own : String) (ic : Nat) (X : String) (names : List String) : List Cond := (Bundle.ownAtoms own ic X names).filter vx_no
/-- a word that the tables alone decide, or a good one -/
def vx_ot (w : Cond) : Bool := w.onTables || goodWord w
theorem vx_ot_at {args a' : Array Value} {s U : State} {w : Cond} (hW : s.WarmedH U.vm) (hvm : s.vm = U.vm) (hg : vx_ot w = true) (h : w.before args s = true) : w.before a' U = true := by
  simp only [vx_ot, Bool.or_eq_true] at hg
  rcases hg with hg | hg
  · exact va_tabs hg hvm h
  · exact word_at hW (good_of_word hg) h
/-- a list's words: the good ones out of the method's own list, the others by premises of their own -/
theorem vx_hat {args : Array Value} {s : State} {L B : List Cond} (h1 : ∀ w ∈ L.filter goodWord, w.before args s = true) (h2 : ∀ w ∈ L.filter (fun w => !goodWord w), w ∈ B) (h3 : ∀ w ∈ B, w.before args s = true) : ∀ w ∈ L, w.before args s = true := by
  intro w hw
  by_cases g : goodWord w = true
  · exact h1 w (List.mem_filter.mpr ⟨hw, g⟩)
  · refine h3 w (h2 w (List.mem_filter.mpr ⟨hw, ?_⟩))
    show (!goodWord w) = true
    cases hgw : goodWord w
    · rfl
    · exact absurd hgw g
theorem vx_c {args : Array Value} {s : State} {w : Cond} {B : List Cond} (h : w.before args s = true) (t : ∀ w ∈ B, w.before args s = true) : ∀ w' ∈ w :: B, w'.before args s = true := fun w' h' => (List.mem_cons.mp h').elim (fun e => by rw [e]; exact h) (t w')
theorem vx_n {args : Array Value} {s : State} : ∀ w ∈ ([] : List Cond), w.before args s = true := fun _ h => nomatch h
theorem vx_own {args : Array Value} {s : State} {L : List Cond} (h1 : ∀ w ∈ L.filter vx_no, w.before args s = true)
    (hU : (Cond.isRef (.static Bundle.tN "UNASSIGNED_STACK" Bundle.steD)).before args s = true) (hN : (Cond.isRef (.static Bundle.tN "SUPPRESSED_SENTINEL" Bundle.listD)).before args s = true)
    (lU : (Cond.laysStatic Bundle.tN "UNASSIGNED_STACK" Bundle.steD).before args s = true) (lN : (Cond.laysStatic Bundle.tN "SUPPRESSED_SENTINEL" Bundle.listD).before args s = true) : ∀ w ∈ L, w.before args s = true := by
  intro w hw
  by_cases e1 : w = .isRef (.static Bundle.tN "UNASSIGNED_STACK" Bundle.steD)
  · rw [e1]; exact hU
  · by_cases e2 : w = .isRef (.static Bundle.tN "SUPPRESSED_SENTINEL" Bundle.listD)
    · rw [e2]; exact hN
    · by_cases e3 : w = .laysStatic Bundle.tN "UNASSIGNED_STACK" Bundle.steD
      · rw [e3]; exact lU
      · by_cases e4 : w = .laysStatic Bundle.tN "SUPPRESSED_SENTINEL" Bundle.listD
        · rw [e4]; exact lN
        · exact h1 w (List.mem_filter.mpr ⟨hw, by unfold vx_no; rw [decide_eq_true e1, decide_eq_true e2, decide_eq_true e3, decide_eq_true e4]; rfl⟩)
/-- where a static field lies, its class's statics cell in H -/
def vx_L (C n d : String) (A : Nat → Prop) (U : State) (H : Heap) : Prop := ∃ (c : ClassId) (k : Class) (i : Nat) (f : Field) (a : Nat) (cell : Cell), U.vm.findClass C = some c ∧ U.fieldFound? C n d = some (c, k, i, f) ∧ f.isStatic = true ∧ k.statics = some a ∧ H[a]? = some cell ∧ cell.vm.isStatics = true ∧ cell.cls = c ∧ f.slot < cell.slots.size ∧ k.staticTypes[f.slot]? = some f.type ∧ ¬ A a
theorem vx_L.moved {C n d : String} {A : Nat → Prop} {u U : State} {H : Heap} (hvm : u.vm.Alike U.vm) (h : vx_L C n d A u H) : vx_L C n d A U H := by
  obtain ⟨c, k, i, f, a, cell, h1, h2, h3, h4, h5, h6, h7, h8, h9, h10⟩ := h
  obtain ⟨k', hi', he⟩ := State.fieldFound?_setVm hvm h2
  exact ⟨c, k', i, f, a, cell, by rw [hvm.findClass]; exact h1, hi', h3, by rw [he]; exact h4, h5, h6, h7, h8, by rw [he]; exact h9, h10⟩
theorem vx_L.kept {C n d : String} {A : Nat → Prop} {U : State} {H H1 : Heap} (h : vx_L C n d A U H) (hq : ∀ a : Nat, a < H.size → ¬ A a → H1[a]? = H[a]?) : vx_L C n d A U H1 := by
  obtain ⟨c, k, i, f, a, cell, h1, h2, h3, h4, h5, h6, h7, h8, h9, h10⟩ := h
  exact ⟨c, k, i, f, a, cell, h1, h2, h3, h4, by rw [hq a (Array.getElem?_eq_some_iff.mp h5).1 h10]; exact h5, h6, h7, h8, h9, h10⟩
theorem vx_L.narrow {C n d : String} {A B : Nat → Prop} {U : State} {H : Heap} (h : vx_L C n d A U H) (hAB : ∀ q, B q → A q) : vx_L C n d B U H := by
  obtain ⟨c, k, i, f, a, cell, h1, h2, h3, h4, h5, h6, h7, h8, h9, h10⟩ := h
  exact ⟨c, k, i, f, a, cell, h1, h2, h3, h4, h5, h6, h7, h8, h9, fun z => h10 (hAB _ z)⟩
theorem vx_L.word {C n d : String} {A : Nat → Prop} {s : State} {args : Array Value} (h : vx_L C n d A s s.heap) : (Cond.laysStatic C n d).before args s = true := by
  obtain ⟨c, k, i, f, a, cell, h1, h2, h3, h4, h5, h6, h7, h8, h9, -⟩ := h
  show (Cond.laysStatic C n d).holds args s none s [] = true
  exact Cond.laysStatic_of h1 h2 h3 h4 h5 h6 h7 h8 h9
/-- .. and what it holds: null or some reference -/
def vx_Zq (C n d : String) (A : Nat → Prop) (U : State) (H : Heap) : Prop := va_Zq C n d A U H ∧ vx_L C n d A U H
theorem vx_Zq.moved {C n d : String} {A : Nat → Prop} {u U : State} {H : Heap} (hvm : u.vm.Alike U.vm) (h : vx_Zq C n d A u H) : vx_Zq C n d A U H := ⟨va_Zq.moved hvm h.1, vx_L.moved hvm h.2⟩
theorem vx_Zq.kept {C n d : String} {A : Nat → Prop} {U : State} {H H1 : Heap} (h : vx_Zq C n d A U H) (hq : ∀ a : Nat, a < H.size → ¬ A a → H1[a]? = H[a]?) : vx_Zq C n d A U H1 := ⟨va_Zq.kept h.1 hq, vx_L.kept h.2 hq⟩
theorem vx_Zq.narrow {C n d : String} {A B : Nat → Prop} {U : State} {H : Heap} (h : vx_Zq C n d A U H) (hAB : ∀ q, B q → A q) : vx_Zq C n d B U H := ⟨va_Zq.narrow h.1 hAB, vx_L.narrow h.2 hAB⟩
theorem vx_Zqof {args : Array Value} {s : State} {C n d : String} {A : Nat → Prop} (hl : (Cond.laysStatic C n d).before args s = true) (hini : (Cond.initialized C).before args s = true) (h : (Cond.isRef (.static C n d)).before args s = true) (hA : ∀ a : Nat, a < s.heap.size → ¬ A a) : vx_Zq C n d A s s.heap := by
  refine ⟨va_Zqof hl hini h hA, ?_⟩
  obtain ⟨c, k, i, f, a, cell, h1, h2, h3, h4, h5, h6, h7, h8, h9⟩ := Cond.laysStatic_spec hl
  exact ⟨c, k, i, f, a, cell, h1, h2, h3, h4, h5, h6, h7, h8, h9, hA a (Array.getElem?_eq_some_iff.mp h5).1⟩
theorem vx_isRef {C n d : String} {v : Value} {A : Nat → Prop} {s : State} {args : Array Value} (h : va_Z C n d v A s s.heap) (hv : v.isRef = true) : (Cond.isRef (.static C n d)).before args s = true := by
  obtain ⟨cf, kf, fi, f, a, cell, h1, h2, h3, h4, h5, h6, h7, -⟩ := h
  have he : (Term.static C n d).eval args s none [] s = some v := by
    simp [Term.eval, State.fieldNamed?, h1, h2, h4, h5, h6, h7]
  simp only [Cond.before, Cond.holds, Cond.value, he]
  cases v <;> simp_all [Value.isRef]
theorem vx_isRefq {C n d : String} {A : Nat → Prop} {s : State} {args : Array Value} (h : va_Zq C n d A s s.heap) : (Cond.isRef (.static C n d)).before args s = true := by
  rcases h with h | ⟨t, h⟩
  · exact vx_isRef h rfl
  · exact vx_isRef h rfl
/-- the same frame, seen from here: as if the method were called anew in this heap -/
theorem vx_rebase {T : State} (X : Stand p l e R s m args below meth c T locs cells slots) {R' : Room} (hf : R'.frames ≤ R.frames) (hl : R'.locals ≤ R.locals) (hc : cells + R'.cells ≤ R.cells) (hs : slots + R'.slots ≤ R.slots) :
    Stand p l e R' ((T.setVm s.vm).setFrames (.invoking m args :: below)) m args below meth c T [] 0 0 := by
  have htop : (T.setVm s.vm).topJava?.isSome := X.here.top
  have hF : ((T.setVm s.vm).setFrames (.invoking m args :: below)).frames = .invoking m args :: below := State.frames_setFrames _ (State.cur_lt_of_top htop)
  obtain ⟨g₀, hg0⟩ := Option.isSome_iff_exists.mp htop
  obtain ⟨r, hr⟩ := State.topJava?_eq_some.mp hg0
  have hl9 : e.platform.stackLimits (T.setVm s.vm).me = e.platform.stackLimits s.me := X.limits
  have hb9 : (T.setVm s.vm).me.stackBytes = s.me.stackBytes := X.bytes
  refine ⟨X.admits, X.cas, X.clock, hF, ?_, X.hears, X.method, X.code, X.here, X.tail, X.warmed, ?_, ?_, ?_⟩
  · have h := X.room
    have hU : ((T.setVm s.vm).setFrames (.invoking m args :: below)).localsInUse = s.localsInUse := by
      rw [State.localsInUse_invoking hF (meth := meth) (c := c) X.method X.code, State.localsInUse_invoking X.frames X.method X.code]
    simp only [State.hasRoom, Bool.and_eq_true, decide_eq_true_eq] at h ⊢
    obtain ⟨⟨⟨⟨h1, h2, h3, h4, h5, h6⟩, h7⟩, h8⟩, h9⟩ := h
    rw [X.frames, List.length_cons] at h2 h3
    have q1 := X.heapSize
    have q2 := X.used
    simp only [hF, hU, List.length_cons, State.stackLimits_setFrames, State.stackBytes_setFrames, hl9, hb9]
    refine ⟨⟨⟨⟨by omega, by omega, by omega, by omega, by omega, h6⟩, ?_⟩, ?_⟩, X.book⟩
    · show T.heap.size + R'.cells ≤ e.platform.maxCells
      omega
    · show T.slotsUsed + R'.slots ≤ e.platform.maxSlots
      omega
  · rw [State.stackLimits_setFrames]; rfl
  · rw [State.stackBytes_setFrames]; rfl
  · refine ⟨?_, Nat.le_refl _, Nat.le_refl _, ?_, ?_, fun a c9 h9 => ⟨c9, h9, rfl, rfl, fun _ _ => rfl⟩⟩
    · obtain ⟨t, ht, -⟩ := State.frames_cons hr
      show T.setVm s.vm = { ((T.setVm s.vm).setFrames (.invoking m args :: below)).setFrames (T.setVm s.vm).frames with heap := T.heap, slotsUsed := T.slotsUsed }
      rw [State.setFrames_setFrames, State.setFrames_self ht]
      rfl
    · show T.slotsUsed = T.slotsUsed + ((T.heap.toList.drop T.heap.size).map (·.slots.size)).sum
      rw [List.drop_eq_nil_of_le (Nat.le_of_eq Array.length_toList)]
      rfl
    · show ((T.heap.toList.drop T.heap.size).map (·.slots.size)).sum ≤ 0
      rw [List.drop_eq_nil_of_le (Nat.le_of_eq Array.length_toList)]
      exact Nat.le_refl _
/-- 'throw new E()': new; dup; invokespecial; athrow -/
theorem vx_throw0 {cc : ByteArray} {pc : Nat} (hexec : p.tables.exec = Jvm.exec) (hb : c.code = cc) (hl : l.stackTraces = false) {own cls : String} {names : List String} {ik ic mc ms : Nat} {A : Nat → Prop}
    (hown : s.vm.findClass own = some m.cls) (hcls : Bundle.fit cls = true) (hnames : ∀ n ∈ names, Bundle.fit n = true)
    (hk : (Cond.classLink own ik cls).before args s = true) (hini : (Cond.initialized cls).before args s = true) (hat : ∀ w ∈ vx_at0 own ic cls names, w.before args s = true)
    (hgood : ∀ w ∈ Cond.classLink own ik cls :: Cond.initialized cls :: vx_at0 own ic cls names, vx_ot w = true)
    (hU : vx_Zq Bundle.tN "UNASSIGNED_STACK" Bundle.steD A s s.heap) (hN : vx_Zq Bundle.tN "SUPPRESSED_SENTINEL" Bundle.listD A s s.heap) (hS : va_S A s.heap H locs) (hsize : ls.size = c.maxLocals)
    (d0 : decode cc pc = .ok (.new ik, 3)) (d3 : decode cc (pc + 3) = .ok (.dup, 1)) (d4 : decode cc (pc + 4) = .ok (.invokespecial ic, 3)) (d7 : decode cc (pc + 7) = .ok (.athrow, 1))
    (hout : ∀ x ∈ c.exceptionTable.toList, covers x (pc + 7) = false)
    (hRframes : names.length + 3 < R.frames) (hRlocals : (rest.map fun v => v.category).sum + (13 * (names.length + 1) + 42) ≤ R.locals) (hRcells : cells + 1 ≤ R.cells) (hRslots : slots + 6 ≤ R.slots) (hlocks : meth.locks = false)
    (hx : ∀ t : State, s.vm.Alike t.vm → H.size ≤ t.heap.size → (∀ q : Nat, q < H.size → t.heap[q]? = H[q]?) → XC cls s t)
    (hf : ∀ z ∈ locs, free z.base) (hc : cells + 1 ≤ mc) (hs : slots + 6 ≤ ms) :
    W p l e R s m args below meth c H locs cells slots (vx_MQ below Qc XC args s mc ms free) (F0 m pc ls rest) := by
  intro T hT X
  have htr : e.platform.stackTraces = false := (show e.platform.stackTraces = l.stackTraces by rw [X.admits.platform]).trans hl
  have Y := vx_rebase X (R' := { frames := R.frames, locals := R.locals, cells := 1, slots := 6 }) (Nat.le_refl _) (Nat.le_refl _) hRcells hRslots
  obtain ⟨s', hA⟩ : ∃ z, z = (T.setVm s.vm).setFrames (.invoking m args :: below) := ⟨_, rfl⟩
  rw [← hA] at Y
  have hvm : s'.vm = s.vm := by rw [hA]; rfl
  have hhp : s'.heap = H := by rw [hA]; exact hT
  have hW0 : s.WarmedH s'.vm := by rw [hvm]; exact State.WarmedH.refl s
  have hat' : ∀ w ∈ vx_at0 own ic cls names, w.before args s' = true := fun w hw => vx_ot_at hW0 hvm.symm (hgood w (List.mem_cons_of_mem _ (List.mem_cons_of_mem _ hw))) (hat w hw)
  have hk' : (Cond.classLink own ik cls).before args s' = true := vx_ot_at hW0 hvm.symm (hgood _ List.mem_cons_self) hk
  have hini' : (Cond.initialized cls).before args s' = true := vx_ot_at hW0 hvm.symm (hgood _ (List.mem_cons_of_mem _ List.mem_cons_self)) hini
  have hU' : vx_Zq Bundle.tN "UNASSIGNED_STACK" Bundle.steD A s' s'.heap := by rw [hhp]; exact vx_Zq.moved hW0.alike (hU.kept hS.2.1)
  have hN' : vx_Zq Bundle.tN "SUPPRESSED_SENTINEL" Bundle.listD A s' s'.heap := by rw [hhp]; exact vx_Zq.moved hW0.alike (hN.kept hS.2.1)
  have h : ∀ w ∈ Bundle.ownAtoms0 own ic cls names, w.before args s' = true := vx_own hat' (vx_isRefq hU'.1) (vx_isRefq hN'.1) hU'.2.word hN'.2.word
  have hown' : s'.vm.findClass own = some m.cls := by rw [hvm]; exact hown
  have hins : (Cond.instantiable cls 6).before args s' = true := h _ (by simp [Bundle.ownAtoms0])
  obtain ⟨vm₁, cX, kX, hfX, hkX, -, -, X₁, st1⟩ := Y.newCold hexec (own := own) (C := cls) (index := ik) (n := 6) hown' hk' hins hini'
    (g := F0 m pc ls rest) rfl (by rw [hb]; exact d0) (Nat.le_refl _) (Nat.le_refl _)
  generalize hT1 : (T.setVm vm₁).pushCell { cls := cX, slots := kX.instanceTypes.map defaultValue, vm := .none } = T1 at X₁ st1
  have hcat : (Value.ref T.heap.size).category = 1 := rfl
  have hcellA : T1.heap[T.heap.size]? = some (freshCell cX kX) := by rw [← hT1]; exact State.heap_pushCell_size _ _
  have d3' : decode c.code (pc + 3) = .ok (.dup, 1) := by rw [hb]; exact d3
  obtain ⟨U, hsteps, hrun, hend, hW, hsame, ce, hce, hO⟩ := X₁.ctorThrow0 hexec htr (own := own) (cls := cls) (names := names) (ic := ic) hown' hcls hnames h (fun x hx => nomatch hx) hfX hkX hcellA (by rw [hhp, hT]; exact Nat.le_refl _)
    (g := { method := m, pc := pc + 4, locals := ls, stack := .ref T.heap.size :: .ref T.heap.size :: rest, locked := none }) rfl hsize rfl rfl (rest := rest) rfl
    (by rw [hb]; exact d4) (by rw [hb]; exact d7) hout hRframes (by simp only [List.map_cons, List.sum_cons, hcat]; omega) hlocks
  obtain ⟨f1, f2⟩ := vx_frame hsame
  rw [hhp] at f1 f2
  have hWs : s.WarmedH U.vm := State.WarmedH.trans hW0 hW
  have hcl : s.vm.findClass cls = some ce.cls := by
    have h9 := hO.cls
    rw [hvm] at h9
    exact h9
  have hall : s.sameButNew ({ U with vm := s.vm } : State) locs mc ms := by
    subst hA
    obtain ⟨e1, e2⟩ := hsame
    rw [State.setFrames_setFrames] at e1
    have h2 : (T.setVm s.vm).sameButNew ({ U with vm := s.vm } : State) [] (0 + 1) (0 + 6) := ⟨e1, e2⟩
    have h3 := X.same.trans h2
    rw [List.append_nil] at h3
    exact h3.mono hc hs
  refine ⟨U, ?_, .threw T.heap.size, hrun, hend, Or.inr ⟨T.heap.size, rfl, cls, ce, locs, hx U hWs.alike f1 (fun q hq => f2 q hq (fun z hz => nomatch hz)), hce, hO.vm, hcl, hWs, hall, hf⟩⟩
  refine st1 _ ?_
  show Steps p.tables e below (T1.setTop { method := m, pc := pc + 3, locals := ls, stack := .ref T.heap.size :: rest, locked := none }) _
  jvm_step X₁.here [X₁.here.top, hexec, d3', Value.category]
  exact hsteps
/-- 'throw new E("text")': new; dup; ldc; invokespecial; athrow -/
theorem vx_throwS {cc : ByteArray} {pc : Nat} (hexec : p.tables.exec = Jvm.exec) (hb : c.code = cc) (hl : l.stackTraces = false) {own cls text : String} {names : List String} {ik is ic mc ms sa : Nat} {A : Nat → Prop}
    (hown : s.vm.findClass own = some m.cls) (hcls : Bundle.fit cls = true) (hnames : ∀ n ∈ names, Bundle.fit n = true)
    (hk : (Cond.classLink own ik cls).before args s = true) (hini : (Cond.initialized cls).before args s = true) (hstr : vk_R own is text sa s) (hat : ∀ w ∈ vx_atS own ic cls names, w.before args s = true)
    (hgood : ∀ w ∈ Cond.classLink own ik cls :: Cond.initialized cls :: vx_atS own ic cls names, vx_ot w = true)
    (hU : vx_Zq Bundle.tN "UNASSIGNED_STACK" Bundle.steD A s s.heap) (hN : vx_Zq Bundle.tN "SUPPRESSED_SENTINEL" Bundle.listD A s s.heap) (hS : va_S A s.heap H locs) (hsize : ls.size = c.maxLocals)
    (d0 : decode cc pc = .ok (.new ik, 3)) (d3 : decode cc (pc + 3) = .ok (.dup, 1)) (d4 : decode cc (pc + 4) = .ok (.ldc is, 2)) (d6 : decode cc (pc + 6) = .ok (.invokespecial ic, 3)) (d9 : decode cc (pc + 9) = .ok (.athrow, 1))
    (hout : ∀ x ∈ c.exceptionTable.toList, covers x (pc + 9) = false)
    (hRframes : names.length + 3 < R.frames) (hRlocals : (rest.map fun v => v.category).sum + (13 * (names.length + 1) + 43) ≤ R.locals) (hRcells : cells + 1 ≤ R.cells) (hRslots : slots + 6 ≤ R.slots) (hlocks : meth.locks = false)
    (hx : ∀ t : State, s.vm.Alike t.vm → H.size ≤ t.heap.size → (∀ q : Nat, q < H.size → t.heap[q]? = H[q]?) → XC cls s t)
    (hf : ∀ z ∈ locs, free z.base) (hc : cells + 1 ≤ mc) (hs : slots + 6 ≤ ms) :
    W p l e R s m args below meth c H locs cells slots (vx_MQ below Qc XC args s mc ms free) (F0 m pc ls rest) := by
  intro T hT X
  have htr : e.platform.stackTraces = false := (show e.platform.stackTraces = l.stackTraces by rw [X.admits.platform]).trans hl
  have Y := vx_rebase X (R' := { frames := R.frames, locals := R.locals, cells := 1, slots := 6 }) (Nat.le_refl _) (Nat.le_refl _) hRcells hRslots
  obtain ⟨s', hA⟩ : ∃ z, z = (T.setVm s.vm).setFrames (.invoking m args :: below) := ⟨_, rfl⟩
  rw [← hA] at Y
  have hvm : s'.vm = s.vm := by rw [hA]; rfl
  have hhp : s'.heap = H := by rw [hA]; exact hT
  have hW0 : s.WarmedH s'.vm := by rw [hvm]; exact State.WarmedH.refl s
  have hat' : ∀ w ∈ vx_atS own ic cls names, w.before args s' = true := fun w hw => vx_ot_at hW0 hvm.symm (hgood w (List.mem_cons_of_mem _ (List.mem_cons_of_mem _ hw))) (hat w hw)
  have hk' : (Cond.classLink own ik cls).before args s' = true := vx_ot_at hW0 hvm.symm (hgood _ List.mem_cons_self) hk
  have hini' : (Cond.initialized cls).before args s' = true := vx_ot_at hW0 hvm.symm (hgood _ (List.mem_cons_of_mem _ List.mem_cons_self)) hini
  have hU' : vx_Zq Bundle.tN "UNASSIGNED_STACK" Bundle.steD A s' s'.heap := by rw [hhp]; exact vx_Zq.moved hW0.alike (hU.kept hS.2.1)
  have hN' : vx_Zq Bundle.tN "SUPPRESSED_SENTINEL" Bundle.listD A s' s'.heap := by rw [hhp]; exact vx_Zq.moved hW0.alike (hN.kept hS.2.1)
  have h : ∀ w ∈ Bundle.ownAtoms own ic cls names, w.before args s' = true := vx_own hat' (vx_isRefq hU'.1) (vx_isRefq hN'.1) hU'.2.word hN'.2.word
  have hown' : s'.vm.findClass own = some m.cls := by rw [hvm]; exact hown
  have hins : (Cond.instantiable cls 6).before args s' = true := h _ (by simp [Bundle.ownAtoms])
  obtain ⟨vm₁, cX, kX, hfX, hkX, -, -, X₁, st1⟩ := Y.newCold hexec (own := own) (C := cls) (index := ik) (n := 6) hown' hk' hins hini'
    (g := F0 m pc ls rest) rfl (by rw [hb]; exact d0) (Nat.le_refl _) (Nat.le_refl _)
  generalize hT1 : (T.setVm vm₁).pushCell { cls := cX, slots := kX.instanceTypes.map defaultValue, vm := .none } = T1 at X₁ st1
  have hcat : (Value.ref T.heap.size).category = 1 := rfl
  have hcellA : T1.heap[T.heap.size]? = some (freshCell cX kX) := by rw [← hT1]; exact State.heap_pushCell_size _ _
  have d3' : decode c.code (pc + 3) = .ok (.dup, 1) := by rw [hb]; exact d3
  have d4' : decode c.code (pc + 4) = .ok (.ldc is, 2) := by rw [hb]; exact d4
  have hstr' : vk_R own is text sa s' := vk_R.warm hW0 hstr
  obtain ⟨U, hsteps, hrun, hend, hW, hsame, ce, hce, hO⟩ := X₁.ctorThrowS hexec htr (own := own) (cls := cls) (names := names) (ic := ic) hown' hcls hnames h (fun x hx => nomatch hx) hfX hkX hcellA (by rw [hhp, hT]; exact Nat.le_refl _) (msg := .ref sa) rfl
    (g := { method := m, pc := pc + 6, locals := ls, stack := .ref sa :: .ref T.heap.size :: .ref T.heap.size :: rest, locked := none }) rfl hsize rfl rfl (rest := rest) rfl
    (by rw [hb]; exact d6) (by rw [hb]; exact d9) hout hRframes (by simp only [List.map_cons, List.sum_cons, hcat]; omega) hlocks
  obtain ⟨f1, f2⟩ := vx_frame hsame
  rw [hhp] at f1 f2
  have hWs : s.WarmedH U.vm := State.WarmedH.trans hW0 hW
  have hcl : s.vm.findClass cls = some ce.cls := by
    have h9 := hO.cls
    rw [hvm] at h9
    exact h9
  have hall : s.sameButNew ({ U with vm := s.vm } : State) locs mc ms := by
    subst hA
    obtain ⟨e1, e2⟩ := hsame
    rw [State.setFrames_setFrames] at e1
    have h2 : (T.setVm s.vm).sameButNew ({ U with vm := s.vm } : State) [] (0 + 1) (0 + 6) := ⟨e1, e2⟩
    have h3 := X.same.trans h2
    rw [List.append_nil] at h3
    exact h3.mono hc hs
  refine ⟨U, ?_, .threw T.heap.size, hrun, hend, Or.inr ⟨T.heap.size, rfl, cls, ce, locs, hx U hWs.alike f1 (fun q hq => f2 q hq (fun z hz => nomatch hz)), hce, hO.vm, hcl, hWs, hall, hf⟩⟩
  refine st1 _ ?_
  show Steps p.tables e below (T1.setTop { method := m, pc := pc + 3, locals := ls, stack := .ref T.heap.size :: rest, locked := none }) _
  jvm_step X₁.here [X₁.here.top, hexec, d3', Value.category]
  exact X₁.ldcString hexec (own := own) (text := text) (index := is) (a := sa) hown' hstr'.1 hstr'.2
    (g := { method := m, pc := pc + 4, locals := ls, stack := .ref T.heap.size :: .ref T.heap.size :: rest, locked := none }) rfl d4' _ hsteps
/-- 'throw new E("text")', the text by a wide index -/
theorem vx_throwSW {cc : ByteArray} {pc : Nat} (hexec : p.tables.exec = Jvm.exec) (hb : c.code = cc) (hl : l.stackTraces = false) {own cls text : String} {names : List String} {ik is ic mc ms sa : Nat} {A : Nat → Prop}
    (hown : s.vm.findClass own = some m.cls) (hcls : Bundle.fit cls = true) (hnames : ∀ n ∈ names, Bundle.fit n = true)
    (hk : (Cond.classLink own ik cls).before args s = true) (hini : (Cond.initialized cls).before args s = true) (hstr : vk_R own is text sa s) (hat : ∀ w ∈ vx_atS own ic cls names, w.before args s = true)
    (hgood : ∀ w ∈ Cond.classLink own ik cls :: Cond.initialized cls :: vx_atS own ic cls names, vx_ot w = true)
    (hU : vx_Zq Bundle.tN "UNASSIGNED_STACK" Bundle.steD A s s.heap) (hN : vx_Zq Bundle.tN "SUPPRESSED_SENTINEL" Bundle.listD A s s.heap) (hS : va_S A s.heap H locs) (hsize : ls.size = c.maxLocals)
    (d0 : decode cc pc = .ok (.new ik, 3)) (d3 : decode cc (pc + 3) = .ok (.dup, 1)) (d4 : decode cc (pc + 4) = .ok (.ldc_w is, 3)) (d7 : decode cc (pc + 7) = .ok (.invokespecial ic, 3)) (d10 : decode cc (pc + 10) = .ok (.athrow, 1))
    (hout : ∀ x ∈ c.exceptionTable.toList, covers x (pc + 10) = false)
    (hRframes : names.length + 3 < R.frames) (hRlocals : (rest.map fun v => v.category).sum + (13 * (names.length + 1) + 43) ≤ R.locals) (hRcells : cells + 1 ≤ R.cells) (hRslots : slots + 6 ≤ R.slots) (hlocks : meth.locks = false)
    (hx : ∀ t : State, s.vm.Alike t.vm → H.size ≤ t.heap.size → (∀ q : Nat, q < H.size → t.heap[q]? = H[q]?) → XC cls s t)
    (hf : ∀ z ∈ locs, free z.base) (hc : cells + 1 ≤ mc) (hs : slots + 6 ≤ ms) :
    W p l e R s m args below meth c H locs cells slots (vx_MQ below Qc XC args s mc ms free) (F0 m pc ls rest) := by
  intro T hT X
  have htr : e.platform.stackTraces = false := (show e.platform.stackTraces = l.stackTraces by rw [X.admits.platform]).trans hl
  have Y := vx_rebase X (R' := { frames := R.frames, locals := R.locals, cells := 1, slots := 6 }) (Nat.le_refl _) (Nat.le_refl _) hRcells hRslots
  obtain ⟨s', hA⟩ : ∃ z, z = (T.setVm s.vm).setFrames (.invoking m args :: below) := ⟨_, rfl⟩
  rw [← hA] at Y
  have hvm : s'.vm = s.vm := by rw [hA]; rfl
  have hhp : s'.heap = H := by rw [hA]; exact hT
  have hW0 : s.WarmedH s'.vm := by rw [hvm]; exact State.WarmedH.refl s
  have hat' : ∀ w ∈ vx_atS own ic cls names, w.before args s' = true := fun w hw => vx_ot_at hW0 hvm.symm (hgood w (List.mem_cons_of_mem _ (List.mem_cons_of_mem _ hw))) (hat w hw)
  have hk' : (Cond.classLink own ik cls).before args s' = true := vx_ot_at hW0 hvm.symm (hgood _ List.mem_cons_self) hk
  have hini' : (Cond.initialized cls).before args s' = true := vx_ot_at hW0 hvm.symm (hgood _ (List.mem_cons_of_mem _ List.mem_cons_self)) hini
  have hU' : vx_Zq Bundle.tN "UNASSIGNED_STACK" Bundle.steD A s' s'.heap := by rw [hhp]; exact vx_Zq.moved hW0.alike (hU.kept hS.2.1)
  have hN' : vx_Zq Bundle.tN "SUPPRESSED_SENTINEL" Bundle.listD A s' s'.heap := by rw [hhp]; exact vx_Zq.moved hW0.alike (hN.kept hS.2.1)
  have h : ∀ w ∈ Bundle.ownAtoms own ic cls names, w.before args s' = true := vx_own hat' (vx_isRefq hU'.1) (vx_isRefq hN'.1) hU'.2.word hN'.2.word
  have hown' : s'.vm.findClass own = some m.cls := by rw [hvm]; exact hown
  have hins : (Cond.instantiable cls 6).before args s' = true := h _ (by simp [Bundle.ownAtoms])
  obtain ⟨vm₁, cX, kX, hfX, hkX, -, -, X₁, st1⟩ := Y.newCold hexec (own := own) (C := cls) (index := ik) (n := 6) hown' hk' hins hini'
    (g := F0 m pc ls rest) rfl (by rw [hb]; exact d0) (Nat.le_refl _) (Nat.le_refl _)
  generalize hT1 : (T.setVm vm₁).pushCell { cls := cX, slots := kX.instanceTypes.map defaultValue, vm := .none } = T1 at X₁ st1
  have hcat : (Value.ref T.heap.size).category = 1 := rfl
  have hcellA : T1.heap[T.heap.size]? = some (freshCell cX kX) := by rw [← hT1]; exact State.heap_pushCell_size _ _
  have d3' : decode c.code (pc + 3) = .ok (.dup, 1) := by rw [hb]; exact d3
  have d4' : decode c.code (pc + 4) = .ok (.ldc_w is, 3) := by rw [hb]; exact d4
  have hstr' : vk_R own is text sa s' := vk_R.warm hW0 hstr
  obtain ⟨U, hsteps, hrun, hend, hW, hsame, ce, hce, hO⟩ := X₁.ctorThrowS hexec htr (own := own) (cls := cls) (names := names) (ic := ic) hown' hcls hnames h (fun x hx => nomatch hx) hfX hkX hcellA (by rw [hhp, hT]; exact Nat.le_refl _) (msg := .ref sa) rfl
    (g := { method := m, pc := pc + 7, locals := ls, stack := .ref sa :: .ref T.heap.size :: .ref T.heap.size :: rest, locked := none }) rfl hsize rfl rfl (rest := rest) rfl
    (by rw [hb]; exact d7) (by rw [hb]; exact d10) hout hRframes (by simp only [List.map_cons, List.sum_cons, hcat]; omega) hlocks
  obtain ⟨f1, f2⟩ := vx_frame hsame
  rw [hhp] at f1 f2
  have hWs : s.WarmedH U.vm := State.WarmedH.trans hW0 hW
  have hcl : s.vm.findClass cls = some ce.cls := by
    have h9 := hO.cls
    rw [hvm] at h9
    exact h9
  have hall : s.sameButNew ({ U with vm := s.vm } : State) locs mc ms := by
    subst hA
    obtain ⟨e1, e2⟩ := hsame
    rw [State.setFrames_setFrames] at e1
    have h2 : (T.setVm s.vm).sameButNew ({ U with vm := s.vm } : State) [] (0 + 1) (0 + 6) := ⟨e1, e2⟩
    have h3 := X.same.trans h2
    rw [List.append_nil] at h3
    exact h3.mono hc hs
  refine ⟨U, ?_, .threw T.heap.size, hrun, hend, Or.inr ⟨T.heap.size, rfl, cls, ce, locs, hx U hWs.alike f1 (fun q hq => f2 q hq (fun z hz => nomatch hz)), hce, hO.vm, hcl, hWs, hall, hf⟩⟩
  refine st1 _ ?_
  show Steps p.tables e below (T1.setTop { method := m, pc := pc + 3, locals := ls, stack := .ref T.heap.size :: rest, locked := none }) _
  jvm_step X₁.here [X₁.here.top, hexec, d3', Value.category]
  exact X₁.ldcStringW hexec (own := own) (text := text) (index := is) (a := sa) hown' hstr'.1 hstr'.2
    (g := { method := m, pc := pc + 4, locals := ls, stack := .ref T.heap.size :: .ref T.heap.size :: rest, locked := none }) rfl d4' _ hsteps
end Ends
section Bodies
variable {l : Launch}
theorem vx_ofW {y : MethodName} {ws ws' : List Cond} {rm : Room} {Pc : Array Value → State → Prop} {Qc : Array Value → State → Outcome → State → Prop} {XC : String → State → State → Prop} {mc ms : Nat} {free : Addr → Prop} {cc : ByteArray} {maxL : Nat} {ret : Option FieldType}
    (hy : plainName y.cls = true) (hw : ws = Cond.code y cc maxL ret :: ws')
    (body : ∀ p e s m args below meth c s₁, BodyLoose p l y (headSpec ws rm) cc maxL ret e s m args below meth c s₁ → c.maxLocals = maxL → (∀ x ∈ c.exceptionTable.toList, False) → Pc args s →
      W p l e (headSpec ws rm).room s m args below meth c s.heap [] 0 0 (vx_MQ below Qc XC args s mc ms free) (entryFrame m args maxL)) : vx_Met l y ws rm Pc Qc XC mc ms free := by
  refine MetFree.of_bodyS (code := cc) (maxLocals := maxL) (ret := ret) hy ?_ ?_
  · intro args s m h hn
    obtain ⟨meth, c, h1, h2, h3, h4, h5, h6, -, -⟩ := Cond.code_spec hn (atoms_spec (ws := ws) h _ (by rw [hw]; exact List.mem_cons_self))
    exact ⟨meth, c, h1, h2, h3, h4, h5, h6⟩
  · intro p e s m args below meth c s₁ B hml hP _
    have hh0 : s₁.heap = s.heap := by rw [B.state]; rfl
    have ht : ∀ x ∈ c.exceptionTable.toList, False := by
      obtain ⟨meth9, c9, h1, h2, -, -, -, -, h7, -⟩ := Cond.code_spec B.named (atoms_spec (ws := ws) B.pre _ (by rw [hw]; exact List.mem_cons_self))
      cases Option.some.inj (h1.symm.trans B.method)
      cases Option.some.inj (h2.symm.trans (Stand.of_body B).code)
      intro x hx
      rw [Array.isEmpty_iff.mp h7] at hx
      cases hx
    obtain ⟨t, a1, o, b1, b2, b3⟩ := body p e s m args below meth c s₁ B hml ht hP s₁ hh0 (Stand.of_body B)
    exact ⟨t, o, a1, b1, b2, b3⟩
/-- the table of a body with handlers -/
theorem vx_table {p : Program} {x y : MethodName} {S : Spec} {cc bytes : ByteArray} {maxL maxL' : Nat} {ret ret' : Option FieldType} {e : Env} {s s₁ : State} {m : MethodId} {args : Array Value} {below : List Frame} {meth : Method} {c : Code} {hh : List (Nat × Nat × Nat × Nat)}
    (B : BodyLoose p l y S cc maxL ret e s m args below meth c s₁) (h : (Cond.codeWith y bytes maxL' ret' hh).before args s = true) : c.exceptionTable.toList = tableOf hh := by
  obtain ⟨m9, meth9, c9, hn9, h1, h2, -, -, h6, -⟩ := Cond.codeWith_spec h
  cases Option.some.inj (hn9.symm.trans B.named)
  cases Option.some.inj (h1.symm.trans B.method)
  cases Option.some.inj (h2.symm.trans (Stand.of_body B).code)
  rw [← h6, table_eq]
end Bodies
end VXA
/-! ===== END ===== -/
/-! ===== BEGIN a static call of a method with an exception table ===== -/
section VXS
variable {p : Program} {l : Launch} {e : Env} {R : Room} {s : State} {m : MethodId} {args : Array Value} {below : List Frame} {meth : Method} {c : Code} {T : State} {H : Heap} {locs : List Loc} {cells slots : Nat}
abbrev vx_CSW (R : Room) (s : State) (args : Array Value) (own : String) (index : Nat) (y : MethodName) (bytes : ByteArray) (maxL : Nat) (ret : Option FieldType) (hh : List (Nat × Nat × Nat × Nat)) (ws : List Cond) (rm : Room) (mc ms n : Nat) : Prop :=
  (rm.cells = mc ∧ rm.slots = ms ∧ rm.frames + 1 ≤ R.frames ∧ 8 + (maxL + 11) + rm.locals ≤ R.locals ∧ (∀ w ∈ ws, ∀ (a' : Array Value) (U : State), s.WarmedH U.vm → w.before a' U = true) ∧ Cond.codeWith y bytes maxL ret hh ∈ ws) ∧
  (Cond.codeWith y bytes maxL ret hh).before args s = true ∧ (Cond.initialized y.cls).before args s = true ∧ (y.cls ≠ "java/lang/invoke/MethodHandle" ∧ y.cls ≠ "java/lang/invoke/VarHandle") ∧
  (∀ sig, parseMethodDescriptor y.desc = some sig → n = sig.parameters.length) ∧ (Cond.methodLink own index y).before args s = true ∧ (Cond.static y).before args s = true
theorem vx_cwSW {own : String} {index maxL mc ms : Nat} {y : MethodName} {bytes : ByteArray} {ret : Option FieldType} {hh : List (Nat × Nat × Nat × Nat)} {Ts ws ws' : List Cond} {rm : Room} (n : Nat) (ht : ∀ w ∈ Ts, w.before args s = true) (hT : GoodIn Ts (va_wsS own index y ws)) (hw : ws = Cond.codeWith y bytes maxL ret hh :: ws') (hrc : rm.cells = mc) (hrs : rm.slots = ms)
    (hd : y.cls ≠ "java/lang/invoke/MethodHandle" ∧ y.cls ≠ "java/lang/invoke/VarHandle" ∧ (parseMethodDescriptor y.desc).map (fun d => d.parameters.length) = some n) (hR : rm.frames + 1 ≤ R.frames ∧ 8 + (maxL + 11) + rm.locals ≤ R.locals) :
    vx_CSW R s args own index y bytes maxL ret hh ws rm mc ms n := by
  have ok : ∀ w ∈ va_wsS own index y ws, w.before args s = true := fun w h => ht w (hT w h).1
  have hG : GoodIn Ts ws := fun w h => hT w (by unfold va_wsS; exact List.mem_append_right _ h)
  have hc : Cond.codeWith y bytes maxL ret hh ∈ ws := by rw [hw]; exact List.mem_cons_self
  refine ⟨⟨hrc, hrs, hR.1, hR.2, pay_in ht hG, hc⟩, ht _ (hG _ hc).1, ok _ (by simp [va_wsS]), ⟨hd.1, hd.2.1⟩, fun sig h => ?_, ok _ (by simp [va_wsS]), ok _ (by simp [va_wsS])⟩
  have h2 := hd.2.2
  rw [h] at h2
  exact (Option.some.inj h2).symm
theorem vx_callSW (X : Stand p l e R s m args below meth c T locs cells slots) (hexec : p.tables.exec = Jvm.exec) {own : String} {index : Nat} {y : MethodName} {bytes : ByteArray} {maxL : Nat} {ret : Option FieldType} {hh : List (Nat × Nat × Nat × Nat)}
    (hown : s.vm.findClass own = some m.cls) (hlink : (Cond.methodLink own index y).before args s = true) (hstat : (Cond.static y).before args s = true) (hinit : (Cond.initialized y.cls).before args s = true)
    (hcode : (Cond.codeWith y bytes maxL ret hh).before args s = true) (hy : y.cls ≠ "java/lang/invoke/MethodHandle" ∧ y.cls ≠ "java/lang/invoke/VarHandle")
    {W9 : Nat} {Pre : Pt → Array Value → Prop} {Post : Pt → Array Value → Option Value → Pt → Prop} (hK : Back l R p e below s args y 3 W9 Pre Post)
    {g : JFrame} (hg : g.method = m) (hsize : g.locals.size = c.maxLocals) {argsL rest : List Value} (hlen : ∀ sig, parseMethodDescriptor y.desc = some sig → argsL.length = sig.parameters.length)
    (hstack : g.stack = argsL.reverse ++ rest) (hW : 2 * g.monitorRoom + (rest.map fun v => v.category).sum ≤ W9) (hdg : decode c.code g.pc = .ok (.invokestatic index, 3))
    (hpre : ∀ vm₁, s.WarmedH vm₁ → Pre ⟨T.setVm vm₁, locs, cells, slots⟩ argsL.toArray) :
    ∃ (v : Option Value) (vm₁ : Vm) (B : Pt), s.WarmedH vm₁ ∧ Stand p l e R s m args below meth c B.U B.locs B.cells B.slots ∧ Post ⟨T.setVm vm₁, locs, cells, slots⟩ argsL.toArray v B ∧
      ∀ target, Steps p.tables e below (B.U.setTop { g with pc := g.pc + 3, stack := v.toList ++ rest }) target → Steps p.tables e below (T.setTop g) target := by
  obtain ⟨mk, methM, cM, hnamed, hmethM, -, -, -, -, -, -, hsigM⟩ := Cond.codeWith_spec hcode
  have hstatic : methM.isStatic = true := Cond.static_spec hnamed hmethM hstat
  obtain ⟨kP, hkP, -⟩ := className_of_methodNamed hnamed
  have hinitP : kP.init = .initialized := Cond.initialized_spec (findClass_of_methodNamed hnamed) hkP hinit
  obtain ⟨vm₁, X₁, hstep₁⟩ := X.invokestatic hexec hown hlink hnamed hmethM hstatic hkP hinitP hy (g := g) hg (argsL := argsL) (rest := rest) (hlen _ hsigM) hstack hdg
  obtain ⟨v, B, X', hpost, hsteps⟩ := hK m meth c ⟨T.setVm vm₁, locs, cells, slots⟩ { g with stack := rest } (.invokestatic index) mk argsL.toArray X₁ hg hsize hdg hW (X₁.named hnamed) (hpre vm₁ X₁.warmed)
  exact ⟨v, vm₁, B, X₁.warmed, X', hpost, fun target h => hstep₁ _ fun acts => by rw [doInvoke_state]; exact hsteps.trans h⟩
theorem vx_runSW {y : MethodName} {bytes cc : ByteArray} {maxL nL mc ms n index : Nat} {ret : Option FieldType} {hh : List (Nat × Nat × Nat × Nat)} {ws : List Cond} {rm : Room} {Pc : Array Value → State → Prop} {Qc : Array Value → State → Outcome → State → Prop} {free : Addr → Prop} {Ts : List Cond} {own : String} {As rest : List Value} {g : JFrame}
    (S : CallFix p m c cc nL s args Ts own) (hM : Met l y ws rm Pc Qc mc ms free) (cw : vx_CSW R s args own index y bytes maxL ret hh ws rm mc ms n) (hp : PreS s H Pc As)
    (hg : g.method = m) (hn : As.length = n) (hsize : g.locals.size = nL) (hstack : g.stack = As.reverse ++ rest) (hW : 2 * g.monitorRoom + (rest.map fun v => v.category).sum ≤ 8) (hdg : decode cc g.pc = .ok (.invokestatic index, 3)) (hf : cells + mc ≤ R.cells ∧ slots + ms ≤ R.slots) :
    va_Run p l e R s m args below meth c H locs cells slots mc ms g rest (Qc As.toArray) (free) := by
  obtain ⟨⟨hrc, hrs, hfr, hlo, hws, hcw⟩, hcode, hini, hy, hlen, hl, hstt⟩ := cw
  have hK : Back l R p e below s args y 3 8 (PreOf R mc ms Pc) (PostOf Qc mc ms free) := va_backW (hh := hh) (bytes := bytes) (maxL := maxL) (ret := ret) hM hp.1 hrc hrs hfr hlo hws hcw (fun a' U hW => word_at hW (Or.inl (by first | rfl | simp [Cond.onTables, Cond.keeps, Cond.steady])) hini)
  obtain ⟨hx, hb, hml, ho, -⟩ := S
  intro T hT X
  obtain ⟨v, vm₁, ⟨U', l2, c2, s2⟩, hW₁, X', ⟨g', mk, t, L, e1, e2, hq, h1, hL, h2, h3⟩, st⟩ := vx_callSW X hx (hh := hh) (bytes := bytes) (maxL := maxL) (ret := ret) ho hl hstt hini hcode hy hK hg (hsize.trans hml.symm) (argsL := As) (rest := rest) (fun sig h => hn.trans (hlen sig h)) hstack hW (by rw [hb]; exact hdg)
    (fun vm₁ hW₁ => ⟨hf.1, hf.2, hp.2 (T.setVm vm₁) hT hW₁⟩)
  dsimp only [Pt.U, Pt.locs, Pt.cells, Pt.slots] at X' e1 e2 h1 h2 h3 st
  subst h1; subst h2; subst h3
  exact ⟨v, (T.setVm vm₁).calling g' mk As.toArray, t, U', L, hT, X', hL, e1, e2, hq, st⟩
/-- not caught here, past rows that name other classes: it goes on to the caller -/
theorem vx_outP {p : Program} {l : Launch} {e : Env} {R : Room} {s : State} {m : MethodId} {args : Array Value} {below : List Frame} {meth : Method} {c : Code} {H : Heap} {locs : List Loc} {cells slots : Nat} {free : Addr → Prop} {ls : Array Slot} {rest : List Value} {Qc : Array Value → State → Outcome → State → Prop} {XC : String → State → State → Prop}
    {pc : Nat} {own E : String} {ce : Cell} {q : Addr} {mc ms : Nat} (hown : s.vm.findClass own = some m.cls) (hlocks : meth.locks = false)
    (hpass : ∀ z ∈ c.exceptionTable.toList, covers z pc = false ∨ (z.catchType ≠ 0 ∧ ∃ nm : String, (Cond.classLink own z.catchType nm).before args s = true ∧ va_Nc E nm s)) (hcell : H[q]? = some ce) (hv : ce.vm = .none) (hcl : s.vm.findClass E = some ce.cls)
    (hx : ∀ t : State, t.heap = H → s.vm.Alike t.vm → XC E s t) (hf : ∀ z ∈ locs, free z.base) (hc : cells ≤ mc) (hs : slots ≤ ms) :
    vx_W p l e R s m args below meth c H locs cells slots (vx_MQ below Qc XC args s mc ms free) (F0 m pc ls rest) q := by
  intro T hT X
  have hpl : e.platform.magicAccessors = ({} : Platform).magicAccessors := by rw [X.admits.platform]
  obtain ⟨vm', hW', X', st⟩ := X.outThrough hlocks q (g := F0 m pc ls rest) rfl rfl rfl (cell := ce) (by rw [hT]; exact hcell) (by rw [hv]; rfl)
    (by obtain ⟨k9, h9, -⟩ := Vm.findClass_spec hcl; exact ⟨k9, h9⟩) (fun z hz => by
      rcases hpass z hz with h | ⟨hz0, nm, hl1, hn1⟩
      · exact Or.inl h
      · obtain ⟨c6, hc6, hcl6⟩ := Cond.classLink_spec hown hl1 e.platform hpl
        obtain ⟨a8, b8, h1, h2, h3⟩ := hn1
        cases Option.some.inj (h1.symm.trans hcl)
        cases Option.some.inj (h2.symm.trans hc6)
        exact Or.inr ⟨hz0, _, hcl6, h3⟩)
  obtain ⟨g₀, hfr⟩ := X'.frames_eq
  have hcell9 : ((T.setVm vm').setFrames (.throwing q :: below)).heap[q]? = some ce := by
    show T.heap[q]? = some ce
    rw [hT]; exact hcell
  have hend : Ended ((T.setVm vm').setFrames (.throwing q :: below)) below (.threw q) := State.frames_setFrames _ (State.cur_lt_of_frames hfr)
  refine ⟨(T.setVm vm').setFrames (.throwing q :: below), ?_, .threw q, X'.here.running, hend, Or.inr ⟨q, rfl, E, ce, locs, hx _ hT (X'.ends _).1.alike, hcell9, hv, hcl, (X'.ends _).1, (X'.ends _).2.mono hc hs, hf⟩⟩
  rw [X.pushThrowing_eq]
  exact st
/-- a thing of a world lies in the heap -/
theorem vx_lt {D : va_G} {cl : List vw_C} {ws : va_W} {H1 : Heap} (h : va_P D cl ws H1) {k : Nat} {q : Nat × va_E} (hk : ws[k]? = some q) : q.1 < H1.size := (h k q hk).lt
end VXS
/-! ===== END ===== -/
/-! ===== BEGIN methods with a table of their own: called by a name, returning or throwing ===== -/
section VXH
/-! vx_backW, vx_callVX, vx_callSX, vx_callVW, vx_runVW, vx_runVX, vx_runSX, vx_ofWH follow the same proofs as their sisters above (Free/Laws.lean, Shelf42/LK1.lean); vx_outP calls Shelf42/NT130.lean (outThrough). -/
section
variable {l : Launch} {R : Room} {p : Program} {e : Env} {below : List Frame} {s : State} {sargs : Array Value} {y : MethodName} {len W9 : Nat}
theorem vx_backW {ws : List Cond} {rm : Room} {Pc : Array Value → State → Prop} {Qc : Array Value → State → Outcome → State → Prop} {XC : String → State → State → Prop} {mc ms : Nat} {free : Addr → Prop} {bytes : ByteArray} {maxL : Nat} {ret : Option FieldType} {hh : List (Nat × Nat × Nat × Nat)}
    (hM : vx_Met l y ws rm Pc Qc XC mc ms free) (hblind : FrameBlind Pc) (hrc : rm.cells = mc) (hrs : rm.slots = ms)
    (hframes : rm.frames + 1 ≤ R.frames) (hlocals : W9 + (maxL + 11) + rm.locals ≤ R.locals)
    (hws : ∀ w ∈ ws, ∀ a' U, s.WarmedH U.vm → w.before a' U = true) (hcode : Cond.codeWith y bytes maxL ret hh ∈ ws) (hinit : ∀ a' U, s.WarmedH U.vm → (Cond.initialized y.cls).before a' U = true) :
    vx_Back l R p e below s sargs y len W9 (PreOf R mc ms Pc) (PostOf Qc mc ms free) (vx_Post XC mc ms free) := by
  intro m meth c A g ig mk a X hg hsize hdg hW hn hp
  have h1 : (headSpec ws rm).pre.before a A.U = true := atoms_intro fun w hw => hws w hw _ _ X.warmed
  have h2 : (Cond.codeWith y bytes maxL ret hh).before a A.U = true := hws _ hcode _ _ X.warmed
  have h3 : (Cond.initialized y.cls).before a A.U = true := hinit _ _ X.warmed
  have h4 : A.cells + (headSpec ws rm).room.cells ≤ R.cells := by rw [show (headSpec ws rm).room.cells = mc from hrc]; exact hp.1
  have h5 : A.slots + (headSpec ws rm).room.slots ≤ R.slots := by rw [show (headSpec ws rm).room.slots = ms from hrs]; exact hp.2.1
  have hPc : Pc a (A.U.calling g mk a) := hblind _ _ _ _ hp.2.2
  obtain ⟨U, Ls, c0, s0⟩ := A
  dsimp only [Pt.U, Pt.locs, Pt.cells, Pt.slots] at h1 h2 h3 h4 h5 X hn hPc ⊢
  obtain ⟨m9, methY, cY, hn9, hmY, hcY, -, hlY, -⟩ := Cond.codeWith_spec h2
  cases Option.some.inj (hn9.symm.trans hn)
  obtain ⟨kY, hkY, -⟩ := className_of_methodNamed hn
  have hinitY : kY.init = .initialized := Cond.initialized_spec (findClass_of_methodNamed hn) hkY h3
  have h : At U g.method c below := by rw [hg]; exact X.here
  have hlocals9 : W9 + (maxL + 11) + (headSpec ws rm).room.locals ≤ R.locals := hlocals
  have happ : (headSpec ws rm).appliesLoose y e.platform (U.calling g mk a) = true :=
    Spec.appliesLoose_calling (g := g) h hdg hn hkY hinitY
      (X.room_calling (g := g) (R' := (headSpec ws rm).room) hsize hmY hcY hframes (by rw [hlY]; omega) h4 h5) h1
  obtain ⟨mid, hmid⟩ := h.above
  have hfr : (U.setTop g).frames = (.java g :: mid) ++ below := by rw [State.frames_setTop' g h.top, hmid]; rfl
  obtain ⟨o, s₂, hsteps, -, hend, hq⟩ := Steps.callFree hM p X.admits X.cas X.clock (acts := []) hfr happ hPc trivial
  have hq' : vx_Q Qc XC mc ms free a (U.calling g mk a) o s₂ := hq
  rw [State.frames_setTop' g h.top] at hend
  obtain ⟨g₀, hg0⟩ := Option.isSome_iff_exists.mp h.top
  obtain ⟨r, hr⟩ := State.topJava?_eq_some.mp hg0
  have hr' : (({ U with heap := s₂.heap, slotsUsed := s₂.slotsUsed } : State).setVm s₂.vm).frames = .java g₀ :: r := hr
  rcases hq' with ⟨hqc, L, hfe, hL⟩ | ⟨q, rfl, E, ce, L, hx, hce, hcv, hcl, hW₂, hsm, hL⟩
  · obtain ⟨⟨v, rfl⟩, hW₂, e2, q2, q3, q4, q5, q6⟩ := id hfe
    have e3 : s₂ = ({ (U.calling g mk a).setFrames s₂.frames with heap := s₂.heap, slotsUsed := s₂.slotsUsed } : State).setVm s₂.vm := by
      have : s₂ = ({ s₂ with vm := (U.calling g mk a).vm } : State).setVm s₂.vm := rfl
      rw [e2] at this
      exact this
    obtain ⟨c₂, i₂, len₂, hc₂, hd₂, hf₂⟩ := hend
    have hW' : U.WarmedH s₂.vm := hW₂
    have hcc : c₂ = c := by
      have h1 : s₂.code? g.method = U.code? g.method := by
        rw [State.code?_eq, State.code?_eq, hW'.alike.method?]
      exact Option.some.inj (hc₂.symm.trans (h1.trans h.code))
    subst hcc
    have hlen : len₂ = len := by rw [hdg] at hd₂; cases hd₂; rfl
    subst hlen
    have hs₂ : s₂ = (({ U with heap := s₂.heap, slotsUsed := s₂.slotsUsed } : State).setVm s₂.vm).setTop { g with pc := g.pc + len₂, stack := v.toList ++ g.stack } := by
      refine e3.trans ?_
      rw [hf₂, State.calling_eq h.top, State.setFrames_setFrames, State.setTop_of_frames _ hr', hr]
      rfl
    have hsame : U.sameButNew ({ U with heap := s₂.heap, slotsUsed := s₂.slotsUsed } : State) L mc ms := by
      refine ⟨?_, q2, q3, q4, q5, q6⟩
      obtain ⟨t, ht, -⟩ := State.frames_cons hr
      show ({ U with heap := s₂.heap, slotsUsed := s₂.slotsUsed } : State) = { U.setFrames U.frames with heap := s₂.heap, slotsUsed := s₂.slotsUsed }
      rw [State.setFrames_self ht]
    subst hg
    refine Or.inl ⟨v, ⟨(({ U with heap := s₂.heap, slotsUsed := s₂.slotsUsed } : State).setVm s₂.vm), Ls ++ L, c0 + mc, s0 + ms⟩,
      ⟨X.admits, X.cas, X.clock, X.frames, X.room, X.hears, X.method, X.code, (X.here.setHeapUsed s₂.heap s₂.slotsUsed).setVm hW'.alike, X.tail, State.WarmedH.trans X.warmed hW', X.limits, X.bytes, X.same.trans (hsame.setVm s.vm)⟩,
      ⟨g, mk, s₂, L, rfl, rfl, hqc, rfl, hL, rfl, rfl⟩, ?_⟩
    show Steps p.tables e below _ ((({ U with heap := s₂.heap, slotsUsed := s₂.slotsUsed } : State).setVm s₂.vm).setTop { g with pc := g.pc + len₂, stack := v.toList ++ g.stack })
    rw [← hs₂]
    exact hsteps
  · obtain ⟨e2, q2, q3, q4, q5, q6⟩ := id hsm
    have e3 : s₂ = ({ (U.calling g mk a).setFrames s₂.frames with heap := s₂.heap, slotsUsed := s₂.slotsUsed } : State).setVm s₂.vm := by
      have : s₂ = ({ s₂ with vm := (U.calling g mk a).vm } : State).setVm s₂.vm := rfl
      rw [e2] at this
      exact this
    have hf₂ : s₂.frames = .throwing q :: .java g :: U.frames.tail := hend
    have hW' : U.WarmedH s₂.vm := hW₂
    have hs₂ : s₂ = ((({ U with heap := s₂.heap, slotsUsed := s₂.slotsUsed } : State).setVm s₂.vm).setTop g).pushFrame (.throwing q) := by
      refine e3.trans ?_
      rw [hf₂, State.calling_eq h.top, State.setFrames_setFrames, State.pushFrame, State.frames_setTop _ hr', State.setTop_of_frames _ hr', State.setFrames_setFrames, hr]
      rfl
    have hsame : U.sameButNew ({ U with heap := s₂.heap, slotsUsed := s₂.slotsUsed } : State) L mc ms := by
      refine ⟨?_, q2, q3, q4, q5, q6⟩
      obtain ⟨t, ht, -⟩ := State.frames_cons hr
      show ({ U with heap := s₂.heap, slotsUsed := s₂.slotsUsed } : State) = { U.setFrames U.frames with heap := s₂.heap, slotsUsed := s₂.slotsUsed }
      rw [State.setFrames_self ht]
    subst hg
    refine Or.inr ⟨q, ⟨(({ U with heap := s₂.heap, slotsUsed := s₂.slotsUsed } : State).setVm s₂.vm), Ls ++ L, c0 + mc, s0 + ms⟩,
      ⟨X.admits, X.cas, X.clock, X.frames, X.room, X.hears, X.method, X.code, (X.here.setHeapUsed s₂.heap s₂.slotsUsed).setVm hW'.alike, X.tail, State.WarmedH.trans X.warmed hW', X.limits, X.bytes, X.same.trans (hsame.setVm s.vm)⟩,
      ⟨g, mk, s₂, L, E, ce, rfl, rfl, hx, hce, hcv, hcl, rfl, hL, rfl, rfl⟩, ?_⟩
    show Steps p.tables e below _ (((({ U with heap := s₂.heap, slotsUsed := s₂.slotsUsed } : State).setVm s₂.vm).setTop g).pushFrame (.throwing q))
    rw [← hs₂]
    exact hsteps
end
variable {p : Program} {l : Launch} {e : Env} {R : Room} {s : State} {m : MethodId} {args : Array Value} {below : List Frame} {meth : Method} {c : Code} {T : State} {H : Heap} {locs : List Loc} {cells slots : Nat}
theorem vx_callVX (X : Stand p l e R s m args below meth c T locs cells slots) (hexec : p.tables.exec = Jvm.exec) {own C : String} {index : Nat} {y : MethodName} {bytes : ByteArray} {maxL : Nat} {ret : Option FieldType} {hh : List (Nat × Nat × Nat × Nat)}
    (hown : s.vm.findClass own = some m.cls) (hlink : (Cond.methodLink own index y).before args s = true) (hinst : (Cond.instanceMethod y).before args s = true) (hsel : (Cond.selects C y y).before args s = true)
    (hcode : (Cond.codeWith y bytes maxL ret hh).before args s = true) (hy : y.cls ≠ "java/lang/invoke/MethodHandle" ∧ y.cls ≠ "java/lang/invoke/VarHandle")
    {W9 : Nat} {Pre : Pt → Array Value → Prop} {Post : Pt → Array Value → Option Value → Pt → Prop} {PostX : Pt → Array Value → Addr → Pt → Prop} (hK : vx_Back l R p e below s args y 3 W9 Pre Post PostX)
    {b : Addr} {cellB : Cell} (hcell : T.heap[b]? = some cellB) (hobj : cellB.vm.isStatics = false) (hcls : s.vm.findClass C = some cellB.cls)
    {g : JFrame} (hg : g.method = m) (hsize : g.locals.size = c.maxLocals) {argsL rest : List Value} (hlen : ∀ sig, parseMethodDescriptor y.desc = some sig → argsL.length = sig.parameters.length)
    (hstack : g.stack = argsL.reverse ++ .ref b :: rest) (hW : 2 * g.monitorRoom + (rest.map fun v => v.category).sum ≤ W9) (hdg : decode c.code g.pc = .ok (.invokevirtual index, 3))
    (hpre : ∀ vm₁, s.WarmedH vm₁ → Pre ⟨T.setVm vm₁, locs, cells, slots⟩ (Value.ref b :: argsL).toArray) :
    (∃ (v : Option Value) (vm₁ : Vm) (B : Pt), s.WarmedH vm₁ ∧ Stand p l e R s m args below meth c B.U B.locs B.cells B.slots ∧ Post ⟨T.setVm vm₁, locs, cells, slots⟩ (Value.ref b :: argsL).toArray v B ∧
      ∀ target, Steps p.tables e below (B.U.setTop { g with pc := g.pc + 3, stack := v.toList ++ rest }) target → Steps p.tables e below (T.setTop g) target) ∨
    (∃ (q : Addr) (vm₁ : Vm) (B : Pt), s.WarmedH vm₁ ∧ Stand p l e R s m args below meth c B.U B.locs B.cells B.slots ∧ PostX ⟨T.setVm vm₁, locs, cells, slots⟩ (Value.ref b :: argsL).toArray q B ∧
      Steps p.tables e below (T.setTop g) ((B.U.setTop { g with stack := rest }).pushFrame (.throwing q))) := by
  obtain ⟨mk, methM, hnamed, hmethM, hstM, habM⟩ := Cond.instanceMethod_spec hinst
  obtain ⟨m8, methM', cM, hn8, hmethM', -, -, -, -, -, -, hsigM⟩ := Cond.codeWith_spec hcode
  cases Option.some.inj (hn8.symm.trans hnamed)
  cases hmethM.symm.trans hmethM'
  obtain ⟨c2, r2, m2, q1, q2, q3, q4, kP, hkP, hkPi⟩ := Cond.selects_spec hsel
  cases hcls.symm.trans q1
  cases (State.methodFound?_of_named hnamed hy).symm.trans q2
  cases hnamed.symm.trans q3
  have hselP : selectMethod e.platform s.vm cellB.cls mk = .method mk := by rw [Launch.admits_selectMethod X.admits]; exact q4
  obtain ⟨vm₁, X₁, hstep₁⟩ := X.invokevirtual hexec hown hlink hnamed hmethM hstM hkP hkPi hy (a := b) (cell := cellB) hcell
    (fun z h => by rw [h] at hobj; cases hobj) hselP hmethM habM hkP hkPi (g := g) hg (argsL := argsL) (rest := rest) (hlen _ hsigM) hstack hdg
  rcases hK m meth c ⟨T.setVm vm₁, locs, cells, slots⟩ { g with stack := rest } (.invokevirtual index) mk (Value.ref b :: argsL).toArray X₁ hg hsize hdg hW (X₁.named hnamed) (hpre vm₁ X₁.warmed) with ⟨v, B, X', hpost, hsteps⟩ | ⟨q, B, X', hpost, hsteps⟩
  · exact Or.inl ⟨v, vm₁, B, X₁.warmed, X', hpost, fun target h => hstep₁ _ fun acts => by rw [doInvoke_state]; exact hsteps.trans h⟩
  · exact Or.inr ⟨q, vm₁, B, X₁.warmed, X', hpost, hstep₁ _ fun acts => by rw [doInvoke_state]; exact hsteps⟩
theorem vx_callSX (X : Stand p l e R s m args below meth c T locs cells slots) (hexec : p.tables.exec = Jvm.exec) {own : String} {index : Nat} {y : MethodName} {bytes : ByteArray} {maxL : Nat} {ret : Option FieldType} {hh : List (Nat × Nat × Nat × Nat)}
    (hown : s.vm.findClass own = some m.cls) (hlink : (Cond.methodLink own index y).before args s = true) (hstat : (Cond.static y).before args s = true) (hinit : (Cond.initialized y.cls).before args s = true)
    (hcode : (Cond.codeWith y bytes maxL ret hh).before args s = true) (hy : y.cls ≠ "java/lang/invoke/MethodHandle" ∧ y.cls ≠ "java/lang/invoke/VarHandle")
    {W9 : Nat} {Pre : Pt → Array Value → Prop} {Post : Pt → Array Value → Option Value → Pt → Prop} {PostX : Pt → Array Value → Addr → Pt → Prop} (hK : vx_Back l R p e below s args y 3 W9 Pre Post PostX)
    {g : JFrame} (hg : g.method = m) (hsize : g.locals.size = c.maxLocals) {argsL rest : List Value} (hlen : ∀ sig, parseMethodDescriptor y.desc = some sig → argsL.length = sig.parameters.length)
    (hstack : g.stack = argsL.reverse ++ rest) (hW : 2 * g.monitorRoom + (rest.map fun v => v.category).sum ≤ W9) (hdg : decode c.code g.pc = .ok (.invokestatic index, 3))
    (hpre : ∀ vm₁, s.WarmedH vm₁ → Pre ⟨T.setVm vm₁, locs, cells, slots⟩ argsL.toArray) :
    (∃ (v : Option Value) (vm₁ : Vm) (B : Pt), s.WarmedH vm₁ ∧ Stand p l e R s m args below meth c B.U B.locs B.cells B.slots ∧ Post ⟨T.setVm vm₁, locs, cells, slots⟩ argsL.toArray v B ∧
      ∀ target, Steps p.tables e below (B.U.setTop { g with pc := g.pc + 3, stack := v.toList ++ rest }) target → Steps p.tables e below (T.setTop g) target) ∨
    (∃ (q : Addr) (vm₁ : Vm) (B : Pt), s.WarmedH vm₁ ∧ Stand p l e R s m args below meth c B.U B.locs B.cells B.slots ∧ PostX ⟨T.setVm vm₁, locs, cells, slots⟩ argsL.toArray q B ∧
      Steps p.tables e below (T.setTop g) ((B.U.setTop { g with stack := rest }).pushFrame (.throwing q))) := by
  obtain ⟨mk, methM, cM, hnamed, hmethM, -, -, -, -, -, -, hsigM⟩ := Cond.codeWith_spec hcode
  have hstatic : methM.isStatic = true := Cond.static_spec hnamed hmethM hstat
  obtain ⟨kP, hkP, -⟩ := className_of_methodNamed hnamed
  have hinitP : kP.init = .initialized := Cond.initialized_spec (findClass_of_methodNamed hnamed) hkP hinit
  obtain ⟨vm₁, X₁, hstep₁⟩ := X.invokestatic hexec hown hlink hnamed hmethM hstatic hkP hinitP hy (g := g) hg (argsL := argsL) (rest := rest) (hlen _ hsigM) hstack hdg
  rcases hK m meth c ⟨T.setVm vm₁, locs, cells, slots⟩ { g with stack := rest } (.invokestatic index) mk argsL.toArray X₁ hg hsize hdg hW (X₁.named hnamed) (hpre vm₁ X₁.warmed) with ⟨v, B, X', hpost, hsteps⟩ | ⟨q, B, X', hpost, hsteps⟩
  · exact Or.inl ⟨v, vm₁, B, X₁.warmed, X', hpost, fun target h => hstep₁ _ fun acts => by rw [doInvoke_state]; exact hsteps.trans h⟩
  · exact Or.inr ⟨q, vm₁, B, X₁.warmed, X', hpost, hstep₁ _ fun acts => by rw [doInvoke_state]; exact hsteps⟩
theorem vx_callVW (X : Stand p l e R s m args below meth c T locs cells slots) (hexec : p.tables.exec = Jvm.exec) {own C : String} {index : Nat} {y : MethodName} {bytes : ByteArray} {maxL : Nat} {ret : Option FieldType} {hh : List (Nat × Nat × Nat × Nat)}
    (hown : s.vm.findClass own = some m.cls) (hlink : (Cond.methodLink own index y).before args s = true) (hinst : (Cond.instanceMethod y).before args s = true) (hsel : (Cond.selects C y y).before args s = true)
    (hcode : (Cond.codeWith y bytes maxL ret hh).before args s = true) (hy : y.cls ≠ "java/lang/invoke/MethodHandle" ∧ y.cls ≠ "java/lang/invoke/VarHandle")
    {W9 : Nat} {Pre : Pt → Array Value → Prop} {Post : Pt → Array Value → Option Value → Pt → Prop} (hK : Back l R p e below s args y 3 W9 Pre Post)
    {b : Addr} {cellB : Cell} (hcell : T.heap[b]? = some cellB) (hobj : cellB.vm.isStatics = false) (hcls : s.vm.findClass C = some cellB.cls)
    {g : JFrame} (hg : g.method = m) (hsize : g.locals.size = c.maxLocals) {argsL rest : List Value} (hlen : ∀ sig, parseMethodDescriptor y.desc = some sig → argsL.length = sig.parameters.length)
    (hstack : g.stack = argsL.reverse ++ .ref b :: rest) (hW : 2 * g.monitorRoom + (rest.map fun v => v.category).sum ≤ W9) (hdg : decode c.code g.pc = .ok (.invokevirtual index, 3))
    (hpre : ∀ vm₁, s.WarmedH vm₁ → Pre ⟨T.setVm vm₁, locs, cells, slots⟩ (Value.ref b :: argsL).toArray) :
    ∃ (v : Option Value) (vm₁ : Vm) (B : Pt), s.WarmedH vm₁ ∧ Stand p l e R s m args below meth c B.U B.locs B.cells B.slots ∧ Post ⟨T.setVm vm₁, locs, cells, slots⟩ (Value.ref b :: argsL).toArray v B ∧
      ∀ target, Steps p.tables e below (B.U.setTop { g with pc := g.pc + 3, stack := v.toList ++ rest }) target → Steps p.tables e below (T.setTop g) target := by
  obtain ⟨mk, methM, hnamed, hmethM, hstM, habM⟩ := Cond.instanceMethod_spec hinst
  obtain ⟨m8, methM', cM, hn8, hmethM', -, -, -, -, -, -, hsigM⟩ := Cond.codeWith_spec hcode
  cases Option.some.inj (hn8.symm.trans hnamed)
  cases hmethM.symm.trans hmethM'
  obtain ⟨c2, r2, m2, q1, q2, q3, q4, kP, hkP, hkPi⟩ := Cond.selects_spec hsel
  cases hcls.symm.trans q1
  cases (State.methodFound?_of_named hnamed hy).symm.trans q2
  cases hnamed.symm.trans q3
  have hselP : selectMethod e.platform s.vm cellB.cls mk = .method mk := by rw [Launch.admits_selectMethod X.admits]; exact q4
  obtain ⟨vm₁, X₁, hstep₁⟩ := X.invokevirtual hexec hown hlink hnamed hmethM hstM hkP hkPi hy (a := b) (cell := cellB) hcell
    (fun z h => by rw [h] at hobj; cases hobj) hselP hmethM habM hkP hkPi (g := g) hg (argsL := argsL) (rest := rest) (hlen _ hsigM) hstack hdg
  obtain ⟨v, B, X', hpost, hsteps⟩ := hK m meth c ⟨T.setVm vm₁, locs, cells, slots⟩ { g with stack := rest } (.invokevirtual index) mk (Value.ref b :: argsL).toArray X₁ hg hsize hdg hW (X₁.named hnamed) (hpre vm₁ X₁.warmed)
  exact ⟨v, vm₁, B, X₁.warmed, X', hpost, fun target h => hstep₁ _ fun acts => by rw [doInvoke_state]; exact hsteps.trans h⟩
abbrev vx_CVW (R : Room) (s : State) (args : Array Value) (own C : String) (index : Nat) (y : MethodName) (bytes : ByteArray) (maxL : Nat) (ret : Option FieldType) (hh : List (Nat × Nat × Nat × Nat)) (ws : List Cond) (rm : Room) (mc ms n : Nat) : Prop :=
  (rm.cells = mc ∧ rm.slots = ms ∧ rm.frames + 1 ≤ R.frames ∧ 8 + (maxL + 11) + rm.locals ≤ R.locals ∧ (∀ w ∈ ws, ∀ (a' : Array Value) (U : State), s.WarmedH U.vm → w.before a' U = true) ∧ Cond.codeWith y bytes maxL ret hh ∈ ws) ∧
  (Cond.codeWith y bytes maxL ret hh).before args s = true ∧ (Cond.initialized y.cls).before args s = true ∧ (y.cls ≠ "java/lang/invoke/MethodHandle" ∧ y.cls ≠ "java/lang/invoke/VarHandle") ∧
  (∀ sig, parseMethodDescriptor y.desc = some sig → n = sig.parameters.length) ∧ (Cond.methodLink own index y).before args s = true ∧ (Cond.instanceMethod y).before args s = true ∧ (Cond.selects C y y).before args s = true
theorem vx_cwVW {own C : String} {index maxL mc ms : Nat} {y : MethodName} {bytes : ByteArray} {ret : Option FieldType} {hh : List (Nat × Nat × Nat × Nat)} {Ts ws ws' : List Cond} {rm : Room} (n : Nat) (ht : ∀ w ∈ Ts, w.before args s = true) (hT : GoodIn Ts (wsV own index C y ws)) (hw : ws = Cond.codeWith y bytes maxL ret hh :: ws') (hrc : rm.cells = mc) (hrs : rm.slots = ms)
    (hd : y.cls = C ∧ y.cls ≠ "java/lang/invoke/MethodHandle" ∧ y.cls ≠ "java/lang/invoke/VarHandle" ∧ (parseMethodDescriptor y.desc).map (fun d => d.parameters.length) = some n) (hR : rm.frames + 1 ≤ R.frames ∧ 8 + (maxL + 11) + rm.locals ≤ R.locals) :
    vx_CVW R s args own C index y bytes maxL ret hh ws rm mc ms n := by
  obtain ⟨hC, hd⟩ := hd
  subst hC
  have ok : ∀ w ∈ wsV own index y.cls y ws, w.before args s = true := fun w h => ht w (hT w h).1
  have hG : GoodIn Ts ws := fun w h => hT w (by unfold wsV; exact List.mem_append_right _ h)
  have hc : Cond.codeWith y bytes maxL ret hh ∈ ws := by rw [hw]; exact List.mem_cons_self
  refine ⟨⟨hrc, hrs, hR.1, hR.2, pay_in ht hG, hc⟩, ht _ (hG _ hc).1, ok _ (by simp [wsV]), ⟨hd.1, hd.2.1⟩, fun sig h => ?_, ok _ (by simp [wsV]), ok _ (by simp [wsV]), ok _ (by simp [wsV])⟩
  have h2 := hd.2.2
  rw [h] at h2
  exact (Option.some.inj h2).symm
theorem vx_runVW {y : MethodName} {bytes cc : ByteArray} {maxL nL mc ms n index : Nat} {ret : Option FieldType} {hh : List (Nat × Nat × Nat × Nat)} {ws : List Cond} {rm : Room} {Pc : Array Value → State → Prop} {Qc : Array Value → State → Outcome → State → Prop} {free : Addr → Prop} {Ts : List Cond} {own C : String} {b : Addr} {As rest : List Value} {g : JFrame}
    (S : CallFix p m c cc nL s args Ts own) (hM : Met l y ws rm Pc Qc mc ms free) (cw : vx_CVW R s args own C index y bytes maxL ret hh ws rm mc ms n) (hp : PreV s H C b Pc As)
    (hg : g.method = m) (hn : As.length = n) (hsize : g.locals.size = nL) (hstack : g.stack = As.reverse ++ .ref b :: rest) (hW : 2 * g.monitorRoom + (rest.map fun v => v.category).sum ≤ 8) (hdg : decode cc g.pc = .ok (.invokevirtual index, 3)) (hf : cells + mc ≤ R.cells ∧ slots + ms ≤ R.slots) :
    va_Run p l e R s m args below meth c H locs cells slots mc ms g rest (Qc (Value.ref b :: As).toArray) free := by
  obtain ⟨⟨hrc, hrs, hfr, hlo, hws, hcw⟩, hcode, hini, hy, hlen, hl, hin, hse⟩ := cw
  have hK : Back l R p e below s args y 3 8 (PreOf R mc ms Pc) (PostOf Qc mc ms free) := va_backW (hh := hh) (bytes := bytes) (maxL := maxL) (ret := ret) hM hp.1 hrc hrs hfr hlo hws hcw (fun a' U hW => word_at hW (Or.inl (by first | rfl | simp [Cond.onTables, Cond.keeps, Cond.steady])) hini)
  obtain ⟨hx, hb, hml, ho, -⟩ := S
  obtain ⟨-, ⟨cellB, hcB, hoB, hclB⟩, hPc⟩ := hp
  intro T hT X
  obtain ⟨v, vm₁, ⟨U', l2, c2, s2⟩, hW₁, X', ⟨g', mk, t, L, e1, e2, hq, h1, hL, h2, h3⟩, st⟩ := vx_callVW X hx (C := C) (hh := hh) (bytes := bytes) (maxL := maxL) (ret := ret) ho hl hin hse hcode hy hK (by rw [hT]; exact hcB) hoB hclB hg (hsize.trans hml.symm) (argsL := As) (rest := rest) (fun sig h => hn.trans (hlen sig h)) hstack hW (by rw [hb]; exact hdg)
    (fun vm₁ hW₁ => ⟨hf.1, hf.2, hPc (T.setVm vm₁) hT hW₁⟩)
  dsimp only [Pt.U, Pt.locs, Pt.cells, Pt.slots] at X' e1 e2 h1 h2 h3 st
  subst h1; subst h2; subst h3
  exact ⟨v, (T.setVm vm₁).calling g' mk (Value.ref b :: As).toArray, t, U', L, hT, X', hL, e1, e2, hq, st⟩
section
variable {y : MethodName} {bytes cc : ByteArray} {maxL nL mc ms n index : Nat} {ret : Option FieldType} {ws : List Cond} {rm : Room} {Pc : Array Value → State → Prop} {Qc : Array Value → State → Outcome → State → Prop} {XC : String → State → State → Prop} {free : Addr → Prop} {Ts : List Cond} {own C : String} {b : Addr} {As rest : List Value} {g : JFrame}
theorem vx_runVX {hh : List (Nat × Nat × Nat × Nat)} (S : CallFix p m c cc nL s args Ts own) (hM : vx_Met l y ws rm Pc Qc XC mc ms free) (cw : vx_CVW R s args own C index y bytes maxL ret hh ws rm mc ms n) (hp : PreV s H C b Pc As)
    (hg : g.method = m) (hn : As.length = n) (hsize : g.locals.size = nL) (hstack : g.stack = As.reverse ++ .ref b :: rest) (hW : 2 * g.monitorRoom + (rest.map fun v => v.category).sum ≤ 8) (hdg : decode cc g.pc = .ok (.invokevirtual index, 3)) (hf : cells + mc ≤ R.cells ∧ slots + ms ≤ R.slots) :
    vx_Run p l e R s m args below meth c H locs cells slots mc ms g rest (Qc (Value.ref b :: As).toArray) XC free := by
  obtain ⟨⟨hrc, hrs, hfr, hlo, hws, hcw⟩, hcode, hini, hy, hlen, hl, hin, hse⟩ := cw
  have hK : vx_Back l R p e below s args y 3 8 (PreOf R mc ms Pc) (PostOf Qc mc ms free) (vx_Post XC mc ms free) := vx_backW (hh := hh) (bytes := bytes) (maxL := maxL) (ret := ret) hM hp.1 hrc hrs hfr hlo hws hcw (fun a' U hW => word_at hW (Or.inl (by first | rfl | simp [Cond.onTables, Cond.keeps, Cond.steady])) hini)
  obtain ⟨hx, hb, hml, ho, -⟩ := S
  obtain ⟨-, ⟨cellB, hcB, hoB, hclB⟩, hPc⟩ := hp
  intro T hT X
  rcases vx_callVX X hx (C := C) (hh := hh) (bytes := bytes) (maxL := maxL) (ret := ret) ho hl hin hse hcode hy hK (by rw [hT]; exact hcB) hoB hclB hg (hsize.trans hml.symm) (argsL := As) (rest := rest) (fun sig h => hn.trans (hlen sig h)) hstack hW (by rw [hb]; exact hdg)
    (fun vm₁ hW₁ => ⟨hf.1, hf.2, hPc (T.setVm vm₁) hT hW₁⟩) with ⟨v, vm₁, ⟨U', l2, c2, s2⟩, hW₁, X', ⟨g', mk, t, L, e1, e2, hq, h1, hL, h2, h3⟩, st⟩ | ⟨q, vm₁, ⟨U', l2, c2, s2⟩, hW₁, X', ⟨g', mk, t, L, E, ce, e1, e2, hq, hce, hcv, hcl, h1, hL, h2, h3⟩, st⟩
  · dsimp only [Pt.U, Pt.locs, Pt.cells, Pt.slots] at X' e1 e2 h1 h2 h3 st
    subst h1; subst h2; subst h3
    exact Or.inl ⟨v, (T.setVm vm₁).calling g' mk (Value.ref b :: As).toArray, t, U', L, hT, X', hL, e1, e2, hq, st⟩
  · dsimp only [Pt.U, Pt.locs, Pt.cells, Pt.slots] at X' e1 e2 h1 h2 h3 st hcl
    subst h1; subst h2; subst h3
    exact Or.inr ⟨q, (T.setVm vm₁).calling g' mk (Value.ref b :: As).toArray, t, U', L, E, ce, hT, X', hL, e1, e2, hq, hce, hcv, vx_cls hW₁ hcl, st⟩
theorem vx_runSX {hh : List (Nat × Nat × Nat × Nat)} (S : CallFix p m c cc nL s args Ts own) (hM : vx_Met l y ws rm Pc Qc XC mc ms free) (cw : vx_CSW R s args own index y bytes maxL ret hh ws rm mc ms n) (hp : PreS s H Pc As)
    (hg : g.method = m) (hn : As.length = n) (hsize : g.locals.size = nL) (hstack : g.stack = As.reverse ++ rest) (hW : 2 * g.monitorRoom + (rest.map fun v => v.category).sum ≤ 8) (hdg : decode cc g.pc = .ok (.invokestatic index, 3)) (hf : cells + mc ≤ R.cells ∧ slots + ms ≤ R.slots) :
    vx_Run p l e R s m args below meth c H locs cells slots mc ms g rest (Qc As.toArray) XC free := by
  obtain ⟨⟨hrc, hrs, hfr, hlo, hws, hcw⟩, hcode, hini, hy, hlen, hl, hstt⟩ := cw
  have hK : vx_Back l R p e below s args y 3 8 (PreOf R mc ms Pc) (PostOf Qc mc ms free) (vx_Post XC mc ms free) := vx_backW (hh := hh) (bytes := bytes) (maxL := maxL) (ret := ret) hM hp.1 hrc hrs hfr hlo hws hcw (fun a' U hW => word_at hW (Or.inl (by first | rfl | simp [Cond.onTables, Cond.keeps, Cond.steady])) hini)
  obtain ⟨hx, hb, hml, ho, -⟩ := S
  intro T hT X
  rcases vx_callSX X hx (hh := hh) (bytes := bytes) (maxL := maxL) (ret := ret) ho hl hstt hini hcode hy hK hg (hsize.trans hml.symm) (argsL := As) (rest := rest) (fun sig h => hn.trans (hlen sig h)) hstack hW (by rw [hb]; exact hdg)
    (fun vm₁ hW₁ => ⟨hf.1, hf.2, hp.2 (T.setVm vm₁) hT hW₁⟩) with ⟨v, vm₁, ⟨U', l2, c2, s2⟩, hW₁, X', ⟨g', mk, t, L, e1, e2, hq, h1, hL, h2, h3⟩, st⟩ | ⟨q, vm₁, ⟨U', l2, c2, s2⟩, hW₁, X', ⟨g', mk, t, L, E, ce, e1, e2, hq, hce, hcv, hcl, h1, hL, h2, h3⟩, st⟩
  · dsimp only [Pt.U, Pt.locs, Pt.cells, Pt.slots] at X' e1 e2 h1 h2 h3 st
    subst h1; subst h2; subst h3
    exact Or.inl ⟨v, (T.setVm vm₁).calling g' mk As.toArray, t, U', L, hT, X', hL, e1, e2, hq, st⟩
  · dsimp only [Pt.U, Pt.locs, Pt.cells, Pt.slots] at X' e1 e2 h1 h2 h3 st hcl
    subst h1; subst h2; subst h3
    exact Or.inr ⟨q, (T.setVm vm₁).calling g' mk As.toArray, t, U', L, E, ce, hT, X', hL, e1, e2, hq, hce, hcv, vx_cls hW₁ hcl, st⟩
end
end VXH
theorem vx_ofWH {l : Launch} {y : MethodName} {ws ws' : List Cond} {rm : Room} {Pc : Array Value → State → Prop} {Qc : Array Value → State → Outcome → State → Prop} {XC : String → State → State → Prop} {mc ms : Nat} {free : Addr → Prop} {cc : ByteArray} {maxL : Nat} {ret : Option FieldType} {hh : List (Nat × Nat × Nat × Nat)}
    (hy : plainName y.cls = true) (hw : ws = Cond.codeWith y cc maxL ret hh :: ws')
    (body : ∀ p e s m args below meth c s₁, BodyLoose p l y (headSpec ws rm) cc maxL ret e s m args below meth c s₁ → c.maxLocals = maxL → Pc args s →
      W p l e (headSpec ws rm).room s m args below meth c s.heap [] 0 0 (vx_MQ below Qc XC args s mc ms free) (entryFrame m args maxL)) : vx_Met l y ws rm Pc Qc XC mc ms free := by
  refine MetFree.of_bodyS (code := cc) (maxLocals := maxL) (ret := ret) hy ?_ ?_
  · intro args s m h hn
    obtain ⟨m9, meth, c, hn9, h1, h2, h3, h4, -, h5, h6, -⟩ := Cond.codeWith_spec (atoms_spec (ws := ws) h _ (by rw [hw]; exact List.mem_cons_self))
    cases hn.symm.trans hn9
    exact ⟨meth, c, h1, h2, h3, h4, h5, h6⟩
  · intro p e s m args below meth c s₁ B hml hP _
    have hh0 : s₁.heap = s.heap := by rw [B.state]; rfl
    obtain ⟨t, a1, o, b1, b2, b3⟩ := body p e s m args below meth c s₁ B hml hP s₁ hh0 (Stand.of_body B)
    exact ⟨t, o, a1, b1, b2, b3⟩
/-! ===== END ===== -/
end
section
/-! ===== BEGIN printed: names, fields, word lists, decode rows ===== -/
def RX0 : String := "CairnShells$Hearths"
def TX0 : u_T := fun k => match k with
  | 0 => ("CairnShells$Hearths", "burning", "I", false)
  | 1 => ("CairnShells$Hearths", "first", "[I", true)
  | _ => ("CairnShells$Hearths", "last", "[I", true)
def tyX0 : Nat → FieldType := fun k => match k with
  | 0 => .int
  | 1 => .array .int
  | _ => .array .int
abbrev wsX00 : List Cond := u_ws RX0 TX0 3
theorem nmX0 : ∀ a, a < 3 → ∀ b, b < 3 → a ≠ b → (TX0 a).2.1 ≠ (TX0 b).2.1 := by decide +kernel
theorem tyX0_ok : ∀ k, k < 3 → parseFieldDescriptor (TX0 k).2.2.1 = some (tyX0 k) := by decide +kernel
abbrev cX0_init : ByteArray := prog_2_method_1_code
def yX0_init : MethodName := ⟨RX0, "<init>", "()V"⟩
abbrev cX0_size : ByteArray := prog_2_method_2_code
def yX0_size : MethodName := ⟨RX0, "size", "()I"⟩
abbrev cX0_isAt : ByteArray := prog_2_method_3_code
def yX0_isAt : MethodName := ⟨RX0, "isAt", "(I)Z"⟩
abbrev cX0_firstAt : ByteArray := prog_2_method_4_code
def yX0_firstAt : MethodName := ⟨RX0, "firstAt", "(I)I"⟩
abbrev cX0_put : ByteArray := prog_2_method_5_code
def yX0_put : MethodName := ⟨RX0, "put", "(III)V"⟩
abbrev cX0_take : ByteArray := prog_2_method_6_code
def yX0_take : MethodName := ⟨RX0, "take", "(I)V"⟩
abbrev cX0_copy : ByteArray := prog_2_method_7_code
def yX0_copy : MethodName := ⟨RX0, "copy", "(LCairnShells$Hearths;)V"⟩
abbrev cX0_greatestFirst : ByteArray := prog_2_method_8_code
def yX0_greatestFirst : MethodName := ⟨RX0, "greatestFirst", "(I)I"⟩
abbrev cX0_leastLast : ByteArray := prog_2_method_9_code
def yX0_leastLast : MethodName := ⟨RX0, "leastLast", "(I)I"⟩
def RX1 : String := "CairnShells$Sieve"
def TX1 : u_T := fun k => match k with
  | _ => ("CairnShells$Sieve", "many", "[I", true)
def tyX1 : Nat → FieldType := fun k => match k with
  | _ => .array .int
abbrev wsX10 : List Cond := u_ws RX1 TX1 1
theorem nmX1 : ∀ a, a < 1 → ∀ b, b < 1 → a ≠ b → (TX1 a).2.1 ≠ (TX1 b).2.1 := by decide +kernel
theorem tyX1_ok : ∀ k, k < 1 → parseFieldDescriptor (TX1 k).2.2.1 = some (tyX1 k) := by decide +kernel
abbrev cX1_init : ByteArray := prog_3_method_1_code
def yX1_init : MethodName := ⟨RX1, "<init>", "()V"⟩
abbrev cX1_put : ByteArray := prog_3_method_2_code
def yX1_put : MethodName := ⟨RX1, "put", "(III)I"⟩
abbrev cX1_sum : ByteArray := prog_3_method_3_code
def yX1_sum : MethodName := ⟨RX1, "sum", "(II)I"⟩
abbrev cX1_all : ByteArray := prog_3_method_4_code
def yX1_all : MethodName := ⟨RX1, "all", "()I"⟩
def RX2 : String := "CairnShells$Strata"
def TX2 : u_T := fun k => match k with
  | 0 => ("CairnShells$Strata", "layers", "I", false)
  | 1 => ("CairnShells$Strata", "alikes", "[I", true)
  | 2 => ("CairnShells$Strata", "belows", "[I", true)
  | 3 => ("CairnShells$Strata", "tops", "[I", true)
  | 4 => ("CairnShells$Strata", "order", "[I", true)
  | _ => ("CairnShells$Strata", "phaseOf", "[I", true)
def tyX2 : Nat → FieldType := fun k => match k with
  | 0 => .int
  | 1 => .array .int
  | 2 => .array .int
  | 3 => .array .int
  | 4 => .array .int
  | _ => .array .int
abbrev wsX20 : List Cond := u_ws RX2 TX2 6
theorem nmX2 : ∀ a, a < 6 → ∀ b, b < 6 → a ≠ b → (TX2 a).2.1 ≠ (TX2 b).2.1 := by decide +kernel
theorem tyX2_ok : ∀ k, k < 6 → parseFieldDescriptor (TX2 k).2.2.1 = some (tyX2 k) := by decide +kernel
abbrev cX2_init : ByteArray := prog_4_method_1_code
def yX2_init : MethodName := ⟨RX2, "<init>", "()V"⟩
abbrev cX2_size : ByteArray := prog_4_method_2_code
def yX2_size : MethodName := ⟨RX2, "size", "()I"⟩
abbrev cX2_alike : ByteArray := prog_4_method_3_code
def yX2_alike : MethodName := ⟨RX2, "alike", "(I)I"⟩
abbrev cX2_below : ByteArray := prog_4_method_4_code
def yX2_below : MethodName := ⟨RX2, "below", "(I)I"⟩
abbrev cX2_onTop : ByteArray := prog_4_method_5_code
def yX2_onTop : MethodName := ⟨RX2, "onTop", "(I)I"⟩
abbrev cX2_placed : ByteArray := prog_4_method_6_code
def yX2_placed : MethodName := ⟨RX2, "placed", "(I)I"⟩
abbrev cX2_phase : ByteArray := prog_4_method_7_code
def yX2_phase : MethodName := ⟨RX2, "phase", "(I)I"⟩
abbrev cX2_isLater : ByteArray := prog_4_method_8_code
def yX2_isLater : MethodName := ⟨RX2, "isLater", "(II)Z"⟩
abbrev cX2_refusesAbove : ByteArray := prog_4_method_9_code
def yX2_refusesAbove : MethodName := ⟨RX2, "refusesAbove", "(II)Z"⟩
abbrev cX2_addLayer : ByteArray := prog_4_method_10_code
def yX2_addLayer : MethodName := ⟨RX2, "addLayer", "()I"⟩
abbrev cX2_putAbove : ByteArray := prog_4_method_11_code
def yX2_putAbove : MethodName := ⟨RX2, "putAbove", "(II)V"⟩
abbrev cX2_join : ByteArray := prog_4_method_12_code
def yX2_join : MethodName := ⟨RX2, "join", "(II)V"⟩
abbrev cX2_link : ByteArray := prog_4_method_13_code
def yX2_link : MethodName := ⟨RX2, "link", "(II)V"⟩
abbrev cX2_arrange : ByteArray := prog_4_method_14_code
def yX2_arrange : MethodName := ⟨RX2, "arrange", "()V"⟩
abbrev cX2_lowestFree : ByteArray := prog_4_method_15_code
def yX2_lowestFree : MethodName := ⟨RX2, "lowestFree", "(I)I"⟩
abbrev cX2_phaseOver : ByteArray := prog_4_method_16_code
def yX2_phaseOver : MethodName := ⟨RX2, "phaseOver", "(I)I"⟩
abbrev cX2_phases : ByteArray := prog_4_method_17_code
def yX2_phases : MethodName := ⟨RX2, "phases", "()I"⟩
abbrev cX2_pairs : ByteArray := prog_4_method_18_code
def yX2_pairs : MethodName := ⟨RX2, "pairs", "()I"⟩
abbrev cX2_pairsMore : ByteArray := prog_4_method_19_code
def yX2_pairsMore : MethodName := ⟨RX2, "pairsMore", "(II)I"⟩
abbrev cX2_sorts : ByteArray := prog_4_method_20_code
def yX2_sorts : MethodName := ⟨RX2, "sorts", "()I"⟩
def RX3 : String := "CairnShells"
def TX3 : u_T := fun k => match k with
  | 0 => ("CairnShells", "strata", "LCairnShells$Strata;", true)
  | 1 => ("CairnShells", "sieve", "LCairnShells$Sieve;", true)
  | 2 => ("CairnShells", "hearths", "LCairnShells$Hearths;", true)
  | _ => ("CairnShells", "trial", "LCairnShells$Hearths;", true)
def tyX3 : Nat → FieldType := fun k => match k with
  | 0 => .object "CairnShells$Strata"
  | 1 => .object "CairnShells$Sieve"
  | 2 => .object "CairnShells$Hearths"
  | _ => .object "CairnShells$Hearths"
abbrev wsX30 : List Cond := u_ws RX3 TX3 4
theorem nmX3 : ∀ a, a < 4 → ∀ b, b < 4 → a ≠ b → (TX3 a).2.1 ≠ (TX3 b).2.1 := by decide +kernel
theorem tyX3_ok : ∀ k, k < 4 → parseFieldDescriptor (TX3 k).2.2.1 = some (tyX3 k) := by decide +kernel
abbrev cX3_init : ByteArray := prog_1_method_1_code
def yX3_init : MethodName := ⟨RX3, "<init>", "()V"⟩
abbrev cX3_find : ByteArray := prog_1_method_2_code
def yX3_find : MethodName := ⟨RX3, "find", "()I"⟩
abbrev cX3_above : ByteArray := prog_1_method_3_code
def yX3_above : MethodName := ⟨RX3, "above", "(II)I"⟩
abbrev cX3_same : ByteArray := prog_1_method_4_code
def yX3_same : MethodName := ⟨RX3, "same", "(II)I"⟩
abbrev cX3_sift : ByteArray := prog_1_method_5_code
def yX3_sift : MethodName := ⟨RX3, "sift", "(III)I"⟩
abbrev cX3_hearth : ByteArray := prog_1_method_6_code
def yX3_hearth : MethodName := ⟨RX3, "hearth", "(III)I"⟩
abbrev cX3_clear : ByteArray := prog_1_method_7_code
def yX3_clear : MethodName := ⟨RX3, "clear", "(I)I"⟩
abbrev cX3_later : ByteArray := prog_1_method_8_code
def yX3_later : MethodName := ⟨RX3, "later", "(II)Z"⟩
abbrev cX3_told : ByteArray := prog_1_method_9_code
def yX3_told : MethodName := ⟨RX3, "told", "(II)I"⟩
abbrev cX3_finds : ByteArray := prog_1_method_10_code
def yX3_finds : MethodName := ⟨RX3, "finds", "(II)I"⟩
abbrev cX3_order : ByteArray := prog_1_method_11_code
def yX3_order : MethodName := ⟨RX3, "order", "(I)I"⟩
abbrev cX3_between : ByteArray := prog_1_method_12_code
def yX3_between : MethodName := ⟨RX3, "between", "(II)I"⟩
abbrev cX3_count : ByteArray := prog_1_method_13_code
def yX3_count : MethodName := ⟨RX3, "count", "(I)I"⟩
abbrev cX3_blame : ByteArray := prog_1_method_14_code
def yX3_blame : MethodName := ⟨RX3, "blame", "()I"⟩
abbrev cX3_narrows : ByteArray := prog_1_method_15_code
def yX3_narrows : MethodName := ⟨RX3, "narrows", "(II)I"⟩
abbrev cX3_tells : ByteArray := prog_1_method_16_code
def yX3_tells : MethodName := ⟨RX3, "tells", "(II)I"⟩
abbrev cX3_mean : ByteArray := prog_1_method_17_code
def yX3_mean : MethodName := ⟨RX3, "mean", "()D"⟩
abbrev cX3_digest : ByteArray := prog_1_method_18_code
def yX3_digest : MethodName := ⟨RX3, "digest", "()J"⟩
abbrev cX3_mixedLayer : ByteArray := prog_1_method_19_code
def yX3_mixedLayer : MethodName := ⟨RX3, "mixedLayer", "(JI)J"⟩
abbrev cX3_mixed : ByteArray := prog_1_method_20_code
def yX3_mixed : MethodName := ⟨RX3, "mixed", "(JJ)J"⟩
abbrev cX3_checkLayer : ByteArray := prog_1_method_21_code
def yX3_checkLayer : MethodName := ⟨RX3, "checkLayer", "(I)V"⟩
abbrev cX3_checkKind : ByteArray := prog_1_method_22_code
def yX3_checkKind : MethodName := ⟨RX3, "checkKind", "(I)V"⟩
abbrev cX3_checkIndex : ByteArray := prog_1_method_23_code
def yX3_checkIndex : MethodName := ⟨RX3, "checkIndex", "(II)V"⟩
abbrev cX3_toldOf : ByteArray := prog_1_method_24_code
def yX3_toldOf : MethodName := ⟨RX3, "toldOf", "(II)I"⟩
abbrev cX3_counted : ByteArray := prog_1_method_25_code
def yX3_counted : MethodName := ⟨RX3, "counted", "(I)I"⟩
abbrev cX3_findsOf : ByteArray := prog_1_method_26_code
def yX3_findsOf : MethodName := ⟨RX3, "findsOf", "(II)I"⟩
abbrev cX3_season : ByteArray := prog_1_method_27_code
def yX3_season : MethodName := ⟨RX3, "season", "(I)I"⟩
abbrev cX3_weight : ByteArray := prog_1_method_28_code
def yX3_weight : MethodName := ⟨RX3, "weight", "(IIIII)I"⟩
abbrev cX3_firstYear : ByteArray := prog_1_method_29_code
def yX3_firstYear : MethodName := ⟨RX3, "firstYear", "(LCairnShells$Hearths;I)I"⟩
abbrev cX3_lastYear : ByteArray := prog_1_method_30_code
def yX3_lastYear : MethodName := ⟨RX3, "lastYear", "(LCairnShells$Hearths;I)I"⟩
abbrev cX3_span : ByteArray := prog_1_method_31_code
def yX3_span : MethodName := ⟨RX3, "span", "(LCairnShells$Hearths;I)I"⟩
abbrev cX3_isDoubtful : ByteArray := prog_1_method_32_code
def yX3_isDoubtful : MethodName := ⟨RX3, "isDoubtful", "(LCairnShells$Hearths;I)Z"⟩
abbrev cX3_doubtfulLayers : ByteArray := prog_1_method_33_code
def yX3_doubtfulLayers : MethodName := ⟨RX3, "doubtfulLayers", "(LCairnShells$Hearths;)I"⟩
abbrev cX3_has : ByteArray := prog_1_method_34_code
def yX3_has : MethodName := ⟨RX3, "has", "(II)Z"⟩
def RX4 : String := "CairnShellsModel"
def TX4 : u_T := fun k => match k with
  | 0 => ("CairnShellsModel", "thrown", "I", false)
  | 1 => ("CairnShellsModel", "layers", "I", false)
  | 2 => ("CairnShellsModel", "alike", "[I", true)
  | 3 => ("CairnShellsModel", "beneath", "[I", true)
  | 4 => ("CairnShellsModel", "sifted", "[I", true)
  | 5 => ("CairnShellsModel", "froms", "[I", true)
  | _ => ("CairnShellsModel", "tos", "[I", true)
def tyX4 : Nat → FieldType := fun k => match k with
  | 0 => .int
  | 1 => .int
  | 2 => .array .int
  | 3 => .array .int
  | 4 => .array .int
  | 5 => .array .int
  | _ => .array .int
abbrev wsX40 : List Cond := u_ws RX4 TX4 7
theorem nmX4 : ∀ a, a < 7 → ∀ b, b < 7 → a ≠ b → (TX4 a).2.1 ≠ (TX4 b).2.1 := by decide +kernel
theorem tyX4_ok : ∀ k, k < 7 → parseFieldDescriptor (TX4 k).2.2.1 = some (tyX4 k) := by decide +kernel
abbrev cX4_init : ByteArray := prog_6_method_1_code
def yX4_init : MethodName := ⟨RX4, "<init>", "()V"⟩
abbrev cX4_thrown : ByteArray := prog_6_method_2_code
def yX4_thrown : MethodName := ⟨RX4, "thrown", "()I"⟩
abbrev cX4_fail : ByteArray := prog_6_method_3_code
def yX4_fail : MethodName := ⟨RX4, "fail", "(I)I"⟩
abbrev cX4_isIn : ByteArray := prog_6_method_4_code
def yX4_isIn : MethodName := ⟨RX4, "isIn", "(III)Z"⟩
abbrev cX4_isLayer : ByteArray := prog_6_method_5_code
def yX4_isLayer : MethodName := ⟨RX4, "isLayer", "(I)Z"⟩
abbrev cX4_has : ByteArray := prog_6_method_6_code
def yX4_has : MethodName := ⟨RX4, "has", "(II)Z"⟩
abbrev cX4_size : ByteArray := prog_6_method_7_code
def yX4_size : MethodName := ⟨RX4, "size", "(I)I"⟩
abbrev cX4_find : ByteArray := prog_6_method_8_code
def yX4_find : MethodName := ⟨RX4, "find", "()I"⟩
abbrev cX4_andAbove : ByteArray := prog_6_method_9_code
def yX4_andAbove : MethodName := ⟨RX4, "andAbove", "(I)I"⟩
abbrev cX4_andBeneath : ByteArray := prog_6_method_10_code
def yX4_andBeneath : MethodName := ⟨RX4, "andBeneath", "(I)I"⟩
abbrev cX4_isRefused : ByteArray := prog_6_method_11_code
def yX4_isRefused : MethodName := ⟨RX4, "isRefused", "(II)Z"⟩
abbrev cX4_lay : ByteArray := prog_6_method_12_code
def yX4_lay : MethodName := ⟨RX4, "lay", "(II)V"⟩
abbrev cX4_above : ByteArray := prog_6_method_13_code
def yX4_above : MethodName := ⟨RX4, "above", "(II)I"⟩
abbrev cX4_same : ByteArray := prog_6_method_14_code
def yX4_same : MethodName := ⟨RX4, "same", "(II)I"⟩
abbrev cX4_sift : ByteArray := prog_6_method_15_code
def yX4_sift : MethodName := ⟨RX4, "sift", "(III)I"⟩
abbrev cX4_isDated : ByteArray := prog_6_method_16_code
def yX4_isDated : MethodName := ⟨RX4, "isDated", "(I)Z"⟩
abbrev cX4_from : ByteArray := prog_6_method_17_code
def yX4_from : MethodName := ⟨RX4, "from", "(I)I"⟩
abbrev cX4_to : ByteArray := prog_6_method_18_code
def yX4_to : MethodName := ⟨RX4, "to", "(I)I"⟩
abbrev cX4_isDoubtful : ByteArray := prog_6_method_19_code
def yX4_isDoubtful : MethodName := ⟨RX4, "isDoubtful", "(I)Z"⟩
abbrev cX4_hearth : ByteArray := prog_6_method_20_code
def yX4_hearth : MethodName := ⟨RX4, "hearth", "(III)I"⟩
abbrev cX4_clear : ByteArray := prog_6_method_21_code
def yX4_clear : MethodName := ⟨RX4, "clear", "(I)I"⟩
abbrev cX4_later : ByteArray := prog_6_method_22_code
def yX4_later : MethodName := ⟨RX4, "later", "(II)Z"⟩
abbrev cX4_phases : ByteArray := prog_6_method_23_code
def yX4_phases : MethodName := ⟨RX4, "phases", "()[I"⟩
abbrev cX4_all : ByteArray := prog_6_method_24_code
def yX4_all : MethodName := ⟨RX4, "all", "(II)I"⟩
abbrev cX4_season : ByteArray := prog_6_method_25_code
def yX4_season : MethodName := ⟨RX4, "season", "(I)I"⟩
abbrev cX4_laterThan : ByteArray := prog_6_method_26_code
def yX4_laterThan : MethodName := ⟨RX4, "laterThan", "(I)I"⟩
abbrev cX4_toldOf : ByteArray := prog_6_method_27_code
def yX4_toldOf : MethodName := ⟨RX4, "toldOf", "(II)I"⟩
abbrev cX4_told : ByteArray := prog_6_method_28_code
def yX4_told : MethodName := ⟨RX4, "told", "(II)I"⟩
abbrev cX4_finds : ByteArray := prog_6_method_29_code
def yX4_finds : MethodName := ⟨RX4, "finds", "(II)I"⟩
abbrev cX4_orderAt : ByteArray := prog_6_method_30_code
def yX4_orderAt : MethodName := ⟨RX4, "orderAt", "(I)I"⟩
abbrev cX4_order : ByteArray := prog_6_method_31_code
def yX4_order : MethodName := ⟨RX4, "order", "(I)I"⟩
abbrev cX4_within : ByteArray := prog_6_method_32_code
def yX4_within : MethodName := ⟨RX4, "within", "(II)I"⟩
abbrev cX4_between : ByteArray := prog_6_method_33_code
def yX4_between : MethodName := ⟨RX4, "between", "(II)I"⟩
abbrev cX4_doubtful : ByteArray := prog_6_method_34_code
def yX4_doubtful : MethodName := ⟨RX4, "doubtful", "()I"⟩
abbrev cX4_pairs : ByteArray := prog_6_method_35_code
def yX4_pairs : MethodName := ⟨RX4, "pairs", "()I"⟩
abbrev cX4_counted : ByteArray := prog_6_method_36_code
def yX4_counted : MethodName := ⟨RX4, "counted", "(I)I"⟩
abbrev cX4_count : ByteArray := prog_6_method_37_code
def yX4_count : MethodName := ⟨RX4, "count", "(I)I"⟩
abbrev cX4_blame : ByteArray := prog_6_method_38_code
def yX4_blame : MethodName := ⟨RX4, "blame", "()I"⟩
abbrev cX4_narrows : ByteArray := prog_6_method_39_code
def yX4_narrows : MethodName := ⟨RX4, "narrows", "(II)I"⟩
abbrev cX4_tells : ByteArray := prog_6_method_40_code
def yX4_tells : MethodName := ⟨RX4, "tells", "(II)I"⟩
abbrev cX4_mean : ByteArray := prog_6_method_41_code
def yX4_mean : MethodName := ⟨RX4, "mean", "()D"⟩
abbrev cX4_digest : ByteArray := prog_6_method_42_code
def yX4_digest : MethodName := ⟨RX4, "digest", "()J"⟩
def RJx8e188 : String := "java/lang/Cloneable"
def TJx8e188 : u_T := fun k => match k with
  | _ => ("", "", "", false)
def tyJx8e188 : Nat → FieldType := fun k => match k with
  | _ => .int
abbrev wsJx8e1880 : List Cond := u_ws RJx8e188 TJx8e188 0
theorem nmJx8e188 : ∀ a, a < 0 → ∀ b, b < 0 → a ≠ b → (TJx8e188 a).2.1 ≠ (TJx8e188 b).2.1 := by decide +kernel
theorem tyJx8e188_ok : ∀ k, k < 0 → parseFieldDescriptor (TJx8e188 k).2.2.1 = some (tyJx8e188 k) := by decide +kernel
def RJ6 : String := "java/lang/Integer"
def TJ6 : u_T := fun k => match k with
  | _ => ("", "", "", false)
def tyJ6 : Nat → FieldType := fun k => match k with
  | _ => .int
abbrev wsJ60 : List Cond := u_ws RJ6 TJ6 0
theorem nmJ6 : ∀ a, a < 0 → ∀ b, b < 0 → a ≠ b → (TJ6 a).2.1 ≠ (TJ6 b).2.1 := by decide +kernel
theorem tyJ6_ok : ∀ k, k < 0 → parseFieldDescriptor (TJ6 k).2.2.1 = some (tyJ6 k) := by decide +kernel
abbrev cJ6_bitCount_0f7a4 : ByteArray := prog_12_method_49_code
def yJ6_bitCount_0f7a4 : MethodName := ⟨RJ6, "bitCount", "(I)I"⟩
def RJ9 : String := "java/lang/Math"
def TJ9 : u_T := fun k => match k with
  | _ => ("", "", "", false)
def tyJ9 : Nat → FieldType := fun k => match k with
  | _ => .int
abbrev wsJ90 : List Cond := u_ws RJ9 TJ9 0
theorem nmJ9 : ∀ a, a < 0 → ∀ b, b < 0 → a ≠ b → (TJ9 a).2.1 ≠ (TJ9 b).2.1 := by decide +kernel
theorem tyJ9_ok : ∀ k, k < 0 → parseFieldDescriptor (TJ9 k).2.2.1 = some (tyJ9 k) := by decide +kernel
abbrev cJ9_max_7cf53 : ByteArray := prog_13_method_65_code
def yJ9_max_7cf53 : MethodName := ⟨RJ9, "max", "(II)I"⟩
abbrev cJ9_min_7cf53 : ByteArray := prog_13_method_69_code
def yJ9_min_7cf53 : MethodName := ⟨RJ9, "min", "(II)I"⟩
def RJ0 : String := "java/lang/String"
def TJ0 : u_T := fun k => match k with
  | _ => ("", "", "", false)
def tyJ0 : Nat → FieldType := fun k => match k with
  | _ => .int
abbrev wsJ00 : List Cond := u_ws RJ0 TJ0 0
theorem nmJ0 : ∀ a, a < 0 → ∀ b, b < 0 → a ≠ b → (TJ0 a).2.1 ≠ (TJ0 b).2.1 := by decide +kernel
theorem tyJ0_ok : ∀ k, k < 0 → parseFieldDescriptor (TJ0 k).2.2.1 = some (tyJ0 k) := by decide +kernel
def RJ10 : String := "java/lang/System"
def TJ10 : u_T := fun k => match k with
  | _ => ("", "", "", false)
def tyJ10 : Nat → FieldType := fun k => match k with
  | _ => .int
abbrev wsJ100 : List Cond := u_ws RJ10 TJ10 0
theorem nmJ10 : ∀ a, a < 0 → ∀ b, b < 0 → a ≠ b → (TJ10 a).2.1 ≠ (TJ10 b).2.1 := by decide +kernel
theorem tyJ10_ok : ∀ k, k < 0 → parseFieldDescriptor (TJ10 k).2.2.1 = some (tyJ10 k) := by decide +kernel
def RL : String := "CairnShellsLaw"
abbrev cL_find : ByteArray := method_3_code
def yL_find : MethodName := ⟨RL, "find", "(LCairnShells;[J)I"⟩
abbrev cL_above : ByteArray := method_4_code
def yL_above : MethodName := ⟨RL, "above", "(LCairnShells;II[J)I"⟩
abbrev cL_same : ByteArray := method_5_code
def yL_same : MethodName := ⟨RL, "same", "(LCairnShells;II[J)I"⟩
abbrev cL_sift : ByteArray := method_6_code
def yL_sift : MethodName := ⟨RL, "sift", "(LCairnShells;III[J)I"⟩
abbrev cL_hearth : ByteArray := method_7_code
def yL_hearth : MethodName := ⟨RL, "hearth", "(LCairnShells;III[J)I"⟩
abbrev cL_clear : ByteArray := method_8_code
def yL_clear : MethodName := ⟨RL, "clear", "(LCairnShells;I[J)I"⟩
abbrev cL_later : ByteArray := method_9_code
def yL_later : MethodName := ⟨RL, "later", "(LCairnShells;II[J)I"⟩
abbrev cL_told : ByteArray := method_10_code
def yL_told : MethodName := ⟨RL, "told", "(LCairnShells;II[J)I"⟩
abbrev cL_finds : ByteArray := method_11_code
def yL_finds : MethodName := ⟨RL, "finds", "(LCairnShells;II[J)I"⟩
abbrev cL_order : ByteArray := method_12_code
def yL_order : MethodName := ⟨RL, "order", "(LCairnShells;I[J)I"⟩
abbrev cL_between : ByteArray := method_13_code
def yL_between : MethodName := ⟨RL, "between", "(LCairnShells;II[J)I"⟩
abbrev cL_count : ByteArray := method_14_code
def yL_count : MethodName := ⟨RL, "count", "(LCairnShells;I[J)I"⟩
abbrev cL_narrows : ByteArray := method_15_code
def yL_narrows : MethodName := ⟨RL, "narrows", "(LCairnShells;II[J)I"⟩
abbrev cL_tells : ByteArray := method_16_code
def yL_tells : MethodName := ⟨RL, "tells", "(LCairnShells;II[J)I"⟩
abbrev cL_law : ByteArray := code
def yL_law : MethodName := ⟨RL, "law", "([I)Z"⟩
def wsX0_init : List Cond := .code yX0_init cX0_init 2 none :: ([.methodLink RX0 3 objectInit, .instanceMethod objectInit, .code objectInit ⟨#[0xb1]⟩ 1 none, .arrayClass .int, .fieldLink RX0 9 "CairnShells$Hearths" "first" "[I", .fieldLink RX0 15 "CairnShells$Hearths" "last" "[I"] ++ wsX00)
def wsJ6_bitCount_0f7a4 : List Cond := .code yJ6_bitCount_0f7a4 cJ6_bitCount_0f7a4 1 (some .int) :: ([.constant RJ6 265 (1431655765), .constant RJ6 266 (858993459), .constant RJ6 267 (252645135)])
def wsX0_size : List Cond := .code yX0_size cX0_size 1 (some .int) :: ([.fieldLink RX0 18 "CairnShells$Hearths" "burning" "I", .methodLink RX0 22 yJ6_bitCount_0f7a4, .static yJ6_bitCount_0f7a4, .initialized RJ6, .code yJ6_bitCount_0f7a4 cJ6_bitCount_0f7a4 1 (some .int), .constant RJ6 265 (1431655765), .constant RJ6 266 (858993459), .constant RJ6 267 (252645135)] ++ wsX00)
def wsX3_has : List Cond := .code yX3_has cX3_has 2 (some .boolean) :: ([])
def wsX0_isAt : List Cond := .code yX0_isAt cX0_isAt 2 (some .boolean) :: ([.fieldLink RX0 18 "CairnShells$Hearths" "burning" "I", .static yX3_has, .initialized RX3, .code yX3_has cX3_has 2 (some .boolean)] ++ wsX00)
def wsX0_firstAt : List Cond := .code yX0_firstAt cX0_firstAt 2 (some .int) :: ([.fieldLink RX0 9 "CairnShells$Hearths" "first" "[I"] ++ wsX00)
def wsX0_put : List Cond := .code yX0_put cX0_put 4 none :: ([.fieldLink RX0 18 "CairnShells$Hearths" "burning" "I", .fieldLink RX0 9 "CairnShells$Hearths" "first" "[I", .fieldLink RX0 15 "CairnShells$Hearths" "last" "[I"] ++ wsX00)
def wsX0_take : List Cond := .code yX0_take cX0_take 2 none :: ([.fieldLink RX0 18 "CairnShells$Hearths" "burning" "I", .fieldLink RX0 9 "CairnShells$Hearths" "first" "[I", .fieldLink RX0 15 "CairnShells$Hearths" "last" "[I"] ++ wsX00)
def wsX0_copy : List Cond := .code yX0_copy cX0_copy 3 none :: ([.fieldLink RX0 18 "CairnShells$Hearths" "burning" "I", .fieldLink RX0 9 "CairnShells$Hearths" "first" "[I", .fieldLink RX0 15 "CairnShells$Hearths" "last" "[I"] ++ wsX00)
def wsX0_greatestFirst : List Cond := .code yX0_greatestFirst cX0_greatestFirst 4 (some .int) :: ([.fieldLink RX0 9 "CairnShells$Hearths" "first" "[I", .methodLink RX0 32 Lib.Math.max.name, .static Lib.Math.max.name, .initialized "java/lang/Math", .code Lib.Math.max.name Lib.Math.max.code 2 (some .int), .static yX3_has, .initialized RX3, .code yX3_has cX3_has 2 (some .boolean)] ++ wsX00)
def wsX0_leastLast : List Cond := .code yX0_leastLast cX0_leastLast 4 (some .int) :: ([.fieldLink RX0 15 "CairnShells$Hearths" "last" "[I", .methodLink RX0 38 Lib.Math.min.name, .static Lib.Math.min.name, .initialized "java/lang/Math", .code Lib.Math.min.name Lib.Math.min.code 2 (some .int), .static yX3_has, .initialized RX3, .code yX3_has cX3_has 2 (some .boolean)] ++ wsX00)
def wsX1_init : List Cond := .code yX1_init cX1_init 1 none :: ([.methodLink RX1 3 objectInit, .instanceMethod objectInit, .code objectInit ⟨#[0xb1]⟩ 1 none, .arrayClass .int, .fieldLink RX1 9 "CairnShells$Sieve" "many" "[I"] ++ wsX10)
def wsX1_put : List Cond := .code yX1_put cX1_put 6 (some .int) :: ([.fieldLink RX1 9 "CairnShells$Sieve" "many" "[I"] ++ wsX10)
def wsX1_sum : List Cond := .code yX1_sum cX1_sum 5 (some .int) :: ([.fieldLink RX1 9 "CairnShells$Sieve" "many" "[I", .static yX3_has, .initialized RX3, .code yX3_has cX3_has 2 (some .boolean)] ++ wsX10)
def wsX1_all : List Cond := .code yX1_all cX1_all 3 (some .int) :: ([.fieldLink RX1 9 "CairnShells$Sieve" "many" "[I"] ++ wsX10)
def wsX2_init : List Cond := .code yX2_init cX2_init 1 none :: ([.methodLink RX2 3 objectInit, .instanceMethod objectInit, .code objectInit ⟨#[0xb1]⟩ 1 none, .arrayClass .int, .fieldLink RX2 9 "CairnShells$Strata" "alikes" "[I", .fieldLink RX2 15 "CairnShells$Strata" "belows" "[I", .fieldLink RX2 18 "CairnShells$Strata" "tops" "[I", .fieldLink RX2 21 "CairnShells$Strata" "order" "[I", .fieldLink RX2 24 "CairnShells$Strata" "phaseOf" "[I"] ++ wsX20)
def wsX2_size : List Cond := .code yX2_size cX2_size 1 (some .int) :: ([.fieldLink RX2 27 "CairnShells$Strata" "layers" "I"] ++ wsX20)
def wsX2_alike : List Cond := .code yX2_alike cX2_alike 2 (some .int) :: ([.fieldLink RX2 9 "CairnShells$Strata" "alikes" "[I"] ++ wsX20)
def wsX2_below : List Cond := .code yX2_below cX2_below 2 (some .int) :: ([.fieldLink RX2 15 "CairnShells$Strata" "belows" "[I"] ++ wsX20)
def wsX2_onTop : List Cond := .code yX2_onTop cX2_onTop 2 (some .int) :: ([.fieldLink RX2 18 "CairnShells$Strata" "tops" "[I"] ++ wsX20)
def wsX2_placed : List Cond := .code yX2_placed cX2_placed 2 (some .int) :: ([.fieldLink RX2 21 "CairnShells$Strata" "order" "[I"] ++ wsX20)
def wsX2_phase : List Cond := .code yX2_phase cX2_phase 2 (some .int) :: ([.fieldLink RX2 24 "CairnShells$Strata" "phaseOf" "[I"] ++ wsX20)
def wsX2_isLater : List Cond := .code yX2_isLater cX2_isLater 3 (some .boolean) :: ([.fieldLink RX2 15 "CairnShells$Strata" "belows" "[I", .static yX3_has, .initialized RX3, .code yX3_has cX3_has 2 (some .boolean)] ++ wsX20)
def wsX2_refusesAbove : List Cond := .code yX2_refusesAbove cX2_refusesAbove 3 (some .boolean) :: ([.fieldLink RX2 9 "CairnShells$Strata" "alikes" "[I", .static yX3_has, .initialized RX3, .code yX3_has cX3_has 2 (some .boolean), .methodLink RX2 35 yX2_isLater, .instanceMethod yX2_isLater, .selects RX2 yX2_isLater yX2_isLater, .initialized RX2, .code yX2_isLater cX2_isLater 3 (some .boolean), .fieldLink RX2 15 "CairnShells$Strata" "belows" "[I"] ++ wsX20)
def wsX2_lowestFree : List Cond := .code yX2_lowestFree cX2_lowestFree 3 (some .int) :: ([.fieldLink RX2 27 "CairnShells$Strata" "layers" "I", .fieldLink RX2 15 "CairnShells$Strata" "belows" "[I", .static yX3_has, .initialized RX3, .code yX3_has cX3_has 2 (some .boolean)] ++ wsX20)
def wsX2_phaseOver : List Cond := .code yX2_phaseOver cX2_phaseOver 4 (some .int) :: ([.fieldLink RX2 27 "CairnShells$Strata" "layers" "I", .fieldLink RX2 24 "CairnShells$Strata" "phaseOf" "[I", .methodLink RX2 52 Lib.Math.max.name, .static Lib.Math.max.name, .initialized "java/lang/Math", .code Lib.Math.max.name Lib.Math.max.code 2 (some .int), .static yX3_has, .initialized RX3, .code yX3_has cX3_has 2 (some .boolean)] ++ wsX20)
def wsX2_arrange : List Cond := .code yX2_arrange cX2_arrange 4 none :: ([.fieldLink RX2 27 "CairnShells$Strata" "layers" "I", .fieldLink RX2 21 "CairnShells$Strata" "order" "[I", .fieldLink RX2 24 "CairnShells$Strata" "phaseOf" "[I", .fieldLink RX2 15 "CairnShells$Strata" "belows" "[I", .methodLink RX2 45 yX2_lowestFree, .instanceMethod yX2_lowestFree, .selects RX2 yX2_lowestFree yX2_lowestFree, .initialized RX2, .code yX2_lowestFree cX2_lowestFree 3 (some .int), .static yX3_has, .initialized RX3, .code yX3_has cX3_has 2 (some .boolean), .methodLink RX2 49 yX2_phaseOver, .instanceMethod yX2_phaseOver, .selects RX2 yX2_phaseOver yX2_phaseOver, .code yX2_phaseOver cX2_phaseOver 4 (some .int), .methodLink RX2 52 Lib.Math.max.name, .static Lib.Math.max.name, .initialized "java/lang/Math", .code Lib.Math.max.name Lib.Math.max.code 2 (some .int)] ++ wsX20)
def wsX2_addLayer_r1 : List Cond := [Cond.fieldLink RX2 27 "CairnShells$Strata" "layers" "I", Cond.fieldLink RX2 9 "CairnShells$Strata" "alikes" "[I", Cond.methodLink RX2 38 yX2_arrange, Cond.instanceMethod yX2_arrange, Cond.selects RX2 yX2_arrange yX2_arrange, Cond.initialized RX2, Cond.code yX2_arrange cX2_arrange 4 none, Cond.fieldLink RX2 21 "CairnShells$Strata" "order" "[I", Cond.fieldLink RX2 24 "CairnShells$Strata" "phaseOf" "[I", Cond.fieldLink RX2 15 "CairnShells$Strata" "belows" "[I", Cond.methodLink RX2 45 yX2_lowestFree, Cond.instanceMethod yX2_lowestFree, Cond.selects RX2 yX2_lowestFree yX2_lowestFree, Cond.code yX2_lowestFree cX2_lowestFree 3 (some .int), Cond.static yX3_has, Cond.initialized RX3, Cond.code yX3_has cX3_has 2 (some .boolean), Cond.methodLink RX2 49 yX2_phaseOver, Cond.instanceMethod yX2_phaseOver, Cond.selects RX2 yX2_phaseOver yX2_phaseOver, Cond.code yX2_phaseOver cX2_phaseOver 4 (some .int), Cond.methodLink RX2 52 Lib.Math.max.name, Cond.static Lib.Math.max.name, Cond.initialized "java/lang/Math"]
def wsX2_addLayer_r2 : List Cond := [Cond.code Lib.Math.max.name Lib.Math.max.code 2 (some .int)]
def wsX2_addLayer : List Cond := .code yX2_addLayer cX2_addLayer 2 (some .int) :: ((wsX2_addLayer_r1 ++ wsX2_addLayer_r2) ++ wsX20)
def wsX2_link : List Cond := .code yX2_link cX2_link 4 none :: ([.fieldLink RX2 27 "CairnShells$Strata" "layers" "I", .fieldLink RX2 15 "CairnShells$Strata" "belows" "[I", .fieldLink RX2 18 "CairnShells$Strata" "tops" "[I", .static yX3_has, .initialized RX3, .code yX3_has cX3_has 2 (some .boolean)] ++ wsX20)
def wsX2_putAbove_r1 : List Cond := [Cond.fieldLink RX2 9 "CairnShells$Strata" "alikes" "[I", Cond.fieldLink RX2 18 "CairnShells$Strata" "tops" "[I", Cond.fieldLink RX2 15 "CairnShells$Strata" "belows" "[I", Cond.methodLink RX2 41 yX2_link, Cond.instanceMethod yX2_link, Cond.selects RX2 yX2_link yX2_link, Cond.initialized RX2, Cond.code yX2_link cX2_link 4 none, Cond.fieldLink RX2 27 "CairnShells$Strata" "layers" "I", Cond.static yX3_has, Cond.initialized RX3, Cond.code yX3_has cX3_has 2 (some .boolean), Cond.methodLink RX2 38 yX2_arrange, Cond.instanceMethod yX2_arrange, Cond.selects RX2 yX2_arrange yX2_arrange, Cond.code yX2_arrange cX2_arrange 4 none, Cond.fieldLink RX2 21 "CairnShells$Strata" "order" "[I", Cond.fieldLink RX2 24 "CairnShells$Strata" "phaseOf" "[I", Cond.methodLink RX2 45 yX2_lowestFree, Cond.instanceMethod yX2_lowestFree, Cond.selects RX2 yX2_lowestFree yX2_lowestFree, Cond.code yX2_lowestFree cX2_lowestFree 3 (some .int), Cond.methodLink RX2 49 yX2_phaseOver, Cond.instanceMethod yX2_phaseOver]
def wsX2_putAbove_r2 : List Cond := [Cond.selects RX2 yX2_phaseOver yX2_phaseOver, Cond.code yX2_phaseOver cX2_phaseOver 4 (some .int), Cond.methodLink RX2 52 Lib.Math.max.name, Cond.static Lib.Math.max.name, Cond.initialized "java/lang/Math", Cond.code Lib.Math.max.name Lib.Math.max.code 2 (some .int)]
def wsX2_putAbove : List Cond := .code yX2_putAbove cX2_putAbove 3 none :: ((wsX2_putAbove_r1 ++ wsX2_putAbove_r2) ++ wsX20)
def wsX2_join_r1 : List Cond := [Cond.fieldLink RX2 9 "CairnShells$Strata" "alikes" "[I", Cond.fieldLink RX2 15 "CairnShells$Strata" "belows" "[I", Cond.fieldLink RX2 18 "CairnShells$Strata" "tops" "[I", Cond.fieldLink RX2 27 "CairnShells$Strata" "layers" "I", Cond.static yX3_has, Cond.initialized RX3, Cond.code yX3_has cX3_has 2 (some .boolean), Cond.methodLink RX2 41 yX2_link, Cond.instanceMethod yX2_link, Cond.selects RX2 yX2_link yX2_link, Cond.initialized RX2, Cond.code yX2_link cX2_link 4 none, Cond.methodLink RX2 38 yX2_arrange, Cond.instanceMethod yX2_arrange, Cond.selects RX2 yX2_arrange yX2_arrange, Cond.code yX2_arrange cX2_arrange 4 none, Cond.fieldLink RX2 21 "CairnShells$Strata" "order" "[I", Cond.fieldLink RX2 24 "CairnShells$Strata" "phaseOf" "[I", Cond.methodLink RX2 45 yX2_lowestFree, Cond.instanceMethod yX2_lowestFree, Cond.selects RX2 yX2_lowestFree yX2_lowestFree, Cond.code yX2_lowestFree cX2_lowestFree 3 (some .int), Cond.methodLink RX2 49 yX2_phaseOver, Cond.instanceMethod yX2_phaseOver]
def wsX2_join_r2 : List Cond := [Cond.selects RX2 yX2_phaseOver yX2_phaseOver, Cond.code yX2_phaseOver cX2_phaseOver 4 (some .int), Cond.methodLink RX2 52 Lib.Math.max.name, Cond.static Lib.Math.max.name, Cond.initialized "java/lang/Math", Cond.code Lib.Math.max.name Lib.Math.max.code 2 (some .int)]
def wsX2_join : List Cond := .code yX2_join cX2_join 7 none :: ((wsX2_join_r1 ++ wsX2_join_r2) ++ wsX20)
def wsX2_phases : List Cond := .code yX2_phases cX2_phases 3 (some .int) :: ([.fieldLink RX2 27 "CairnShells$Strata" "layers" "I", .fieldLink RX2 24 "CairnShells$Strata" "phaseOf" "[I", .methodLink RX2 52 Lib.Math.max.name, .static Lib.Math.max.name, .initialized "java/lang/Math", .code Lib.Math.max.name Lib.Math.max.code 2 (some .int)] ++ wsX20)
def wsX2_pairs : List Cond := .code yX2_pairs cX2_pairs 3 (some .int) :: ([.fieldLink RX2 27 "CairnShells$Strata" "layers" "I", .fieldLink RX2 15 "CairnShells$Strata" "belows" "[I", .methodLink RX2 58 yJ6_bitCount_0f7a4, .static yJ6_bitCount_0f7a4, .initialized RJ6, .code yJ6_bitCount_0f7a4 cJ6_bitCount_0f7a4 1 (some .int), .constant RJ6 265 (1431655765), .constant RJ6 266 (858993459), .constant RJ6 267 (252645135)] ++ wsX20)
def wsX2_pairsMore : List Cond := .code yX2_pairsMore cX2_pairsMore 7 (some .int) :: ([.fieldLink RX2 9 "CairnShells$Strata" "alikes" "[I", .fieldLink RX2 18 "CairnShells$Strata" "tops" "[I", .fieldLink RX2 15 "CairnShells$Strata" "belows" "[I", .fieldLink RX2 27 "CairnShells$Strata" "layers" "I", .static yX3_has, .initialized RX3, .code yX3_has cX3_has 2 (some .boolean), .methodLink RX2 58 yJ6_bitCount_0f7a4, .static yJ6_bitCount_0f7a4, .initialized RJ6, .code yJ6_bitCount_0f7a4 cJ6_bitCount_0f7a4 1 (some .int), .constant RJ6 265 (1431655765), .constant RJ6 266 (858993459), .constant RJ6 267 (252645135)] ++ wsX20)
def wsX2_sorts : List Cond := .code yX2_sorts cX2_sorts 3 (some .int) :: ([.fieldLink RX2 27 "CairnShells$Strata" "layers" "I", .fieldLink RX2 9 "CairnShells$Strata" "alikes" "[I"] ++ wsX20)
def wsX3_init_r1 : List Cond := [Cond.methodLink RX3 1 objectInit, Cond.instanceMethod objectInit, Cond.code objectInit ⟨#[0xb1]⟩ 1 none, Cond.classLink RX3 7 RX2, Cond.instantiable RX2 6, Cond.initialized RX2, Cond.fieldLink RX3 10 "CairnShells" "strata" "LCairnShells$Strata;", Cond.classLink RX3 16 RX1, Cond.instantiable RX1 1, Cond.initialized RX1, Cond.fieldLink RX3 19 "CairnShells" "sieve" "LCairnShells$Sieve;", Cond.classLink RX3 23 RX0, Cond.instantiable RX0 3, Cond.initialized RX0, Cond.fieldLink RX3 26 "CairnShells" "hearths" "LCairnShells$Hearths;", Cond.fieldLink RX3 30 "CairnShells" "trial" "LCairnShells$Hearths;", Cond.instanceMethod yX2_init, Cond.code yX2_init cX2_init 1 none, Cond.methodLink RX2 3 objectInit, Cond.arrayClass .int, Cond.fieldLink RX2 9 "CairnShells$Strata" "alikes" "[I", Cond.fieldLink RX2 15 "CairnShells$Strata" "belows" "[I", Cond.fieldLink RX2 18 "CairnShells$Strata" "tops" "[I", Cond.fieldLink RX2 21 "CairnShells$Strata" "order" "[I"]
def wsX3_init_r2 : List Cond := [Cond.fieldLink RX2 24 "CairnShells$Strata" "phaseOf" "[I", Cond.instanceMethod yX1_init, Cond.code yX1_init cX1_init 1 none, Cond.methodLink RX1 3 objectInit, Cond.fieldLink RX1 9 "CairnShells$Sieve" "many" "[I", Cond.methodLink RX3 25 yX0_init, Cond.instanceMethod yX0_init, Cond.code yX0_init cX0_init 2 none, Cond.methodLink RX0 3 objectInit, Cond.fieldLink RX0 9 "CairnShells$Hearths" "first" "[I", Cond.fieldLink RX0 15 "CairnShells$Hearths" "last" "[I"]
def wsX3_init : List Cond := .code yX3_init cX3_init 1 none :: ((wsX3_init_r1 ++ wsX3_init_r2) ++ wsX20 ++ wsX30 ++ wsX10 ++ wsX00)
def wsX3_find_r1 : List Cond := [Cond.classLink RX3 37 "java/lang/IllegalStateException", Cond.initialized "java/lang/IllegalStateException", Cond.fieldLink RX3 10 "CairnShells" "strata" "LCairnShells$Strata;", Cond.methodLink RX3 33 yX2_size, Cond.instanceMethod yX2_size, Cond.selects RX2 yX2_size yX2_size, Cond.initialized RX2, Cond.code yX2_size cX2_size 1 (some .int), Cond.fieldLink RX2 27 "CairnShells$Strata" "layers" "I", Cond.methodLink RX3 44 yX2_addLayer, Cond.instanceMethod yX2_addLayer, Cond.selects RX2 yX2_addLayer yX2_addLayer, Cond.code yX2_addLayer cX2_addLayer 2 (some .int), Cond.fieldLink RX2 9 "CairnShells$Strata" "alikes" "[I", Cond.methodLink RX2 38 yX2_arrange, Cond.instanceMethod yX2_arrange, Cond.selects RX2 yX2_arrange yX2_arrange, Cond.code yX2_arrange cX2_arrange 4 none, Cond.fieldLink RX2 21 "CairnShells$Strata" "order" "[I", Cond.fieldLink RX2 24 "CairnShells$Strata" "phaseOf" "[I", Cond.fieldLink RX2 15 "CairnShells$Strata" "belows" "[I", Cond.methodLink RX2 45 yX2_lowestFree, Cond.instanceMethod yX2_lowestFree, Cond.selects RX2 yX2_lowestFree yX2_lowestFree]
def wsX3_find_r2 : List Cond := [Cond.code yX2_lowestFree cX2_lowestFree 3 (some .int), Cond.static yX3_has, Cond.initialized RX3, Cond.code yX3_has cX3_has 2 (some .boolean), Cond.methodLink RX2 49 yX2_phaseOver, Cond.instanceMethod yX2_phaseOver, Cond.selects RX2 yX2_phaseOver yX2_phaseOver, Cond.code yX2_phaseOver cX2_phaseOver 4 (some .int), Cond.methodLink RX2 52 Lib.Math.max.name, Cond.static Lib.Math.max.name, Cond.initialized "java/lang/Math", Cond.code Lib.Math.max.name Lib.Math.max.code 2 (some .int)]
def wsX3_find : List Cond := .code yX3_find cX3_find 1 (some .int) :: ((wsX3_find_r1 ++ wsX3_find_r2) ++ wsX30 ++ wsX20 ++ (vx_atS RX3 41 "java/lang/IllegalStateException" ["java/lang/RuntimeException", "java/lang/Exception"]).filter goodWord)
def wsX3_checkIndex : List Cond := .code yX3_checkIndex cX3_checkIndex 2 none :: ([.classLink RX3 168 "java/lang/IndexOutOfBoundsException", .initialized "java/lang/IndexOutOfBoundsException"] ++ (vx_atS RX3 172 "java/lang/IndexOutOfBoundsException" ["java/lang/RuntimeException", "java/lang/Exception"]).filter goodWord)
def wsX3_checkLayer : List Cond := .code yX3_checkLayer cX3_checkLayer 2 none :: ([.fieldLink RX3 10 "CairnShells" "strata" "LCairnShells$Strata;", .methodLink RX3 33 yX2_size, .instanceMethod yX2_size, .selects RX2 yX2_size yX2_size, .initialized RX2, .code yX2_size cX2_size 1 (some .int), .fieldLink RX2 27 "CairnShells$Strata" "layers" "I", .methodLink RX3 114 yX3_checkIndex, .static yX3_checkIndex, .initialized RX3, .code yX3_checkIndex cX3_checkIndex 2 none, .classLink RX3 168 "java/lang/IndexOutOfBoundsException", .initialized "java/lang/IndexOutOfBoundsException"] ++ wsX30 ++ wsX20 ++ (vx_atS RX3 172 "java/lang/IndexOutOfBoundsException" ["java/lang/RuntimeException", "java/lang/Exception"]).filter goodWord)
def wsX3_above_r1 : List Cond := [Cond.classLink RX3 37 "java/lang/IllegalStateException", Cond.initialized "java/lang/IllegalStateException", Cond.fieldLink RX3 10 "CairnShells" "strata" "LCairnShells$Strata;", Cond.methodLink RX3 47 yX3_checkLayer, Cond.instanceMethod yX3_checkLayer, Cond.selects RX3 yX3_checkLayer yX3_checkLayer, Cond.initialized RX3, Cond.code yX3_checkLayer cX3_checkLayer 2 none, Cond.methodLink RX3 33 yX2_size, Cond.instanceMethod yX2_size, Cond.selects RX2 yX2_size yX2_size, Cond.initialized RX2, Cond.code yX2_size cX2_size 1 (some .int), Cond.fieldLink RX2 27 "CairnShells$Strata" "layers" "I", Cond.methodLink RX3 114 yX3_checkIndex, Cond.static yX3_checkIndex, Cond.code yX3_checkIndex cX3_checkIndex 2 none, Cond.classLink RX3 168 "java/lang/IndexOutOfBoundsException", Cond.initialized "java/lang/IndexOutOfBoundsException", Cond.methodLink RX3 51 yX2_refusesAbove, Cond.instanceMethod yX2_refusesAbove, Cond.selects RX2 yX2_refusesAbove yX2_refusesAbove, Cond.code yX2_refusesAbove cX2_refusesAbove 3 (some .boolean), Cond.fieldLink RX2 9 "CairnShells$Strata" "alikes" "[I"]
def wsX3_above_r2 : List Cond := [Cond.static yX3_has, Cond.code yX3_has cX3_has 2 (some .boolean), Cond.methodLink RX2 35 yX2_isLater, Cond.instanceMethod yX2_isLater, Cond.selects RX2 yX2_isLater yX2_isLater, Cond.code yX2_isLater cX2_isLater 3 (some .boolean), Cond.fieldLink RX2 15 "CairnShells$Strata" "belows" "[I", Cond.methodLink RX3 57 yX2_putAbove, Cond.instanceMethod yX2_putAbove, Cond.selects RX2 yX2_putAbove yX2_putAbove, Cond.code yX2_putAbove cX2_putAbove 3 none, Cond.fieldLink RX2 18 "CairnShells$Strata" "tops" "[I", Cond.methodLink RX2 41 yX2_link, Cond.instanceMethod yX2_link, Cond.selects RX2 yX2_link yX2_link, Cond.code yX2_link cX2_link 4 none, Cond.methodLink RX2 38 yX2_arrange, Cond.instanceMethod yX2_arrange, Cond.selects RX2 yX2_arrange yX2_arrange, Cond.code yX2_arrange cX2_arrange 4 none, Cond.fieldLink RX2 21 "CairnShells$Strata" "order" "[I", Cond.fieldLink RX2 24 "CairnShells$Strata" "phaseOf" "[I", Cond.methodLink RX2 45 yX2_lowestFree, Cond.instanceMethod yX2_lowestFree]
def wsX3_above_r3 : List Cond := [Cond.selects RX2 yX2_lowestFree yX2_lowestFree, Cond.code yX2_lowestFree cX2_lowestFree 3 (some .int), Cond.methodLink RX2 49 yX2_phaseOver, Cond.instanceMethod yX2_phaseOver, Cond.selects RX2 yX2_phaseOver yX2_phaseOver, Cond.code yX2_phaseOver cX2_phaseOver 4 (some .int), Cond.methodLink RX2 52 Lib.Math.max.name, Cond.static Lib.Math.max.name, Cond.initialized "java/lang/Math", Cond.code Lib.Math.max.name Lib.Math.max.code 2 (some .int), Cond.methodLink RX3 61 yX2_below, Cond.instanceMethod yX2_below, Cond.selects RX2 yX2_below yX2_below, Cond.code yX2_below cX2_below 2 (some .int), Cond.methodLink RX3 65 yJ6_bitCount_0f7a4, Cond.static yJ6_bitCount_0f7a4, Cond.initialized RJ6, Cond.code yJ6_bitCount_0f7a4 cJ6_bitCount_0f7a4 1 (some .int), Cond.constant RJ6 265 (1431655765), Cond.constant RJ6 266 (858993459), Cond.constant RJ6 267 (252645135)]
def wsX3_above : List Cond := .code yX3_above cX3_above 3 (some .int) :: ((wsX3_above_r1 ++ (wsX3_above_r2 ++ wsX3_above_r3)) ++ wsX30 ++ wsX20 ++ (vx_atS RX3 41 "java/lang/IllegalStateException" ["java/lang/RuntimeException", "java/lang/Exception"]).filter goodWord ++ (vx_atS RX3 172 "java/lang/IndexOutOfBoundsException" ["java/lang/RuntimeException", "java/lang/Exception"]).filter goodWord)
def wsX3_same_r1 : List Cond := [Cond.classLink RX3 37 "java/lang/IllegalStateException", Cond.initialized "java/lang/IllegalStateException", Cond.fieldLink RX3 10 "CairnShells" "strata" "LCairnShells$Strata;", Cond.methodLink RX3 47 yX3_checkLayer, Cond.instanceMethod yX3_checkLayer, Cond.selects RX3 yX3_checkLayer yX3_checkLayer, Cond.initialized RX3, Cond.code yX3_checkLayer cX3_checkLayer 2 none, Cond.methodLink RX3 33 yX2_size, Cond.instanceMethod yX2_size, Cond.selects RX2 yX2_size yX2_size, Cond.initialized RX2, Cond.code yX2_size cX2_size 1 (some .int), Cond.fieldLink RX2 27 "CairnShells$Strata" "layers" "I", Cond.methodLink RX3 114 yX3_checkIndex, Cond.static yX3_checkIndex, Cond.code yX3_checkIndex cX3_checkIndex 2 none, Cond.classLink RX3 168 "java/lang/IndexOutOfBoundsException", Cond.initialized "java/lang/IndexOutOfBoundsException", Cond.methodLink RX3 70 yX2_isLater, Cond.instanceMethod yX2_isLater, Cond.selects RX2 yX2_isLater yX2_isLater, Cond.code yX2_isLater cX2_isLater 3 (some .boolean), Cond.fieldLink RX2 15 "CairnShells$Strata" "belows" "[I"]
def wsX3_same_r2 : List Cond := [Cond.static yX3_has, Cond.code yX3_has cX3_has 2 (some .boolean), Cond.methodLink RX3 75 yX2_join, Cond.instanceMethod yX2_join, Cond.selects RX2 yX2_join yX2_join, Cond.code yX2_join cX2_join 7 none, Cond.fieldLink RX2 9 "CairnShells$Strata" "alikes" "[I", Cond.fieldLink RX2 18 "CairnShells$Strata" "tops" "[I", Cond.methodLink RX2 41 yX2_link, Cond.instanceMethod yX2_link, Cond.selects RX2 yX2_link yX2_link, Cond.code yX2_link cX2_link 4 none, Cond.methodLink RX2 38 yX2_arrange, Cond.instanceMethod yX2_arrange, Cond.selects RX2 yX2_arrange yX2_arrange, Cond.code yX2_arrange cX2_arrange 4 none, Cond.fieldLink RX2 21 "CairnShells$Strata" "order" "[I", Cond.fieldLink RX2 24 "CairnShells$Strata" "phaseOf" "[I", Cond.methodLink RX2 45 yX2_lowestFree, Cond.instanceMethod yX2_lowestFree, Cond.selects RX2 yX2_lowestFree yX2_lowestFree, Cond.code yX2_lowestFree cX2_lowestFree 3 (some .int), Cond.methodLink RX2 49 yX2_phaseOver, Cond.instanceMethod yX2_phaseOver]
def wsX3_same_r3 : List Cond := [Cond.selects RX2 yX2_phaseOver yX2_phaseOver, Cond.code yX2_phaseOver cX2_phaseOver 4 (some .int), Cond.methodLink RX2 52 Lib.Math.max.name, Cond.static Lib.Math.max.name, Cond.initialized "java/lang/Math", Cond.code Lib.Math.max.name Lib.Math.max.code 2 (some .int), Cond.methodLink RX3 78 yX2_alike, Cond.instanceMethod yX2_alike, Cond.selects RX2 yX2_alike yX2_alike, Cond.code yX2_alike cX2_alike 2 (some .int), Cond.methodLink RX3 65 yJ6_bitCount_0f7a4, Cond.static yJ6_bitCount_0f7a4, Cond.initialized RJ6, Cond.code yJ6_bitCount_0f7a4 cJ6_bitCount_0f7a4 1 (some .int), Cond.constant RJ6 265 (1431655765), Cond.constant RJ6 266 (858993459), Cond.constant RJ6 267 (252645135)]
def wsX3_same : List Cond := .code yX3_same cX3_same 3 (some .int) :: ((wsX3_same_r1 ++ (wsX3_same_r2 ++ wsX3_same_r3)) ++ wsX30 ++ wsX20 ++ (vx_atS RX3 41 "java/lang/IllegalStateException" ["java/lang/RuntimeException", "java/lang/Exception"]).filter goodWord ++ (vx_atS RX3 172 "java/lang/IndexOutOfBoundsException" ["java/lang/RuntimeException", "java/lang/Exception"]).filter goodWord)
def wsX3_checkKind : List Cond := .code yX3_checkKind cX3_checkKind 1 none :: ([.methodLink RX3 114 yX3_checkIndex, .static yX3_checkIndex, .initialized RX3, .code yX3_checkIndex cX3_checkIndex 2 none, .classLink RX3 168 "java/lang/IndexOutOfBoundsException", .initialized "java/lang/IndexOutOfBoundsException"] ++ (vx_atS RX3 172 "java/lang/IndexOutOfBoundsException" ["java/lang/RuntimeException", "java/lang/Exception"]).filter goodWord)
def wsX3_sift_r1 : List Cond := [Cond.classLink RX3 84 "java/lang/IllegalArgumentException", Cond.initialized "java/lang/IllegalArgumentException", Cond.fieldLink RX3 19 "CairnShells" "sieve" "LCairnShells$Sieve;", Cond.methodLink RX3 47 yX3_checkLayer, Cond.instanceMethod yX3_checkLayer, Cond.selects RX3 yX3_checkLayer yX3_checkLayer, Cond.initialized RX3, Cond.code yX3_checkLayer cX3_checkLayer 2 none, Cond.fieldLink RX3 10 "CairnShells" "strata" "LCairnShells$Strata;", Cond.methodLink RX3 33 yX2_size, Cond.instanceMethod yX2_size, Cond.selects RX2 yX2_size yX2_size, Cond.initialized RX2, Cond.code yX2_size cX2_size 1 (some .int), Cond.fieldLink RX2 27 "CairnShells$Strata" "layers" "I", Cond.methodLink RX3 114 yX3_checkIndex, Cond.static yX3_checkIndex, Cond.code yX3_checkIndex cX3_checkIndex 2 none, Cond.classLink RX3 168 "java/lang/IndexOutOfBoundsException", Cond.initialized "java/lang/IndexOutOfBoundsException", Cond.methodLink RX3 81 yX3_checkKind, Cond.static yX3_checkKind, Cond.code yX3_checkKind cX3_checkKind 1 none, Cond.methodLink RX3 89 yX1_put]
def wsX3_sift_r2 : List Cond := [Cond.instanceMethod yX1_put, Cond.selects RX1 yX1_put yX1_put, Cond.initialized RX1, Cond.code yX1_put cX1_put 6 (some .int), Cond.fieldLink RX1 9 "CairnShells$Sieve" "many" "[I"]
def wsX3_sift : List Cond := .code yX3_sift cX3_sift 4 (some .int) :: ((wsX3_sift_r1 ++ wsX3_sift_r2) ++ wsX30 ++ wsX20 ++ wsX10 ++ (vx_atS RX3 88 "java/lang/IllegalArgumentException" ["java/lang/RuntimeException", "java/lang/Exception"]).filter goodWord ++ (vx_atS RX3 172 "java/lang/IndexOutOfBoundsException" ["java/lang/RuntimeException", "java/lang/Exception"]).filter goodWord)
def wsX3_firstYear_r1 : List Cond := [Cond.fieldLink RX3 10 "CairnShells" "strata" "LCairnShells$Strata;", Cond.methodLink RX3 78 yX2_alike, Cond.instanceMethod yX2_alike, Cond.selects RX2 yX2_alike yX2_alike, Cond.initialized RX2, Cond.code yX2_alike cX2_alike 2 (some .int), Cond.fieldLink RX2 9 "CairnShells$Strata" "alikes" "[I", Cond.methodLink RX3 61 yX2_below, Cond.instanceMethod yX2_below, Cond.selects RX2 yX2_below yX2_below, Cond.code yX2_below cX2_below 2 (some .int), Cond.fieldLink RX2 15 "CairnShells$Strata" "belows" "[I", Cond.methodLink RX3 199 yX0_greatestFirst, Cond.instanceMethod yX0_greatestFirst, Cond.selects RX0 yX0_greatestFirst yX0_greatestFirst, Cond.initialized RX0, Cond.code yX0_greatestFirst cX0_greatestFirst 4 (some .int), Cond.fieldLink RX0 9 "CairnShells$Hearths" "first" "[I", Cond.methodLink RX0 32 Lib.Math.max.name, Cond.static Lib.Math.max.name, Cond.initialized "java/lang/Math", Cond.code Lib.Math.max.name Lib.Math.max.code 2 (some .int), Cond.static yX3_has, Cond.initialized RX3]
def wsX3_firstYear_r2 : List Cond := [Cond.code yX3_has cX3_has 2 (some .boolean)]
def wsX3_firstYear : List Cond := .code yX3_firstYear cX3_firstYear 3 (some .int) :: ((wsX3_firstYear_r1 ++ wsX3_firstYear_r2) ++ wsX30 ++ wsX20 ++ wsX00)
def wsX3_hearth_r1 : List Cond := [Cond.classLink RX3 84 "java/lang/IllegalArgumentException", Cond.initialized "java/lang/IllegalArgumentException", Cond.fieldLink RX3 26 "CairnShells" "hearths" "LCairnShells$Hearths;", Cond.methodLink RX3 47 yX3_checkLayer, Cond.instanceMethod yX3_checkLayer, Cond.selects RX3 yX3_checkLayer yX3_checkLayer, Cond.initialized RX3, Cond.code yX3_checkLayer cX3_checkLayer 2 none, Cond.fieldLink RX3 10 "CairnShells" "strata" "LCairnShells$Strata;", Cond.methodLink RX3 33 yX2_size, Cond.instanceMethod yX2_size, Cond.selects RX2 yX2_size yX2_size, Cond.initialized RX2, Cond.code yX2_size cX2_size 1 (some .int), Cond.fieldLink RX2 27 "CairnShells$Strata" "layers" "I", Cond.methodLink RX3 114 yX3_checkIndex, Cond.static yX3_checkIndex, Cond.code yX3_checkIndex cX3_checkIndex 2 none, Cond.classLink RX3 168 "java/lang/IndexOutOfBoundsException", Cond.initialized "java/lang/IndexOutOfBoundsException", Cond.methodLink RX3 95 yX0_put, Cond.instanceMethod yX0_put, Cond.selects RX0 yX0_put yX0_put, Cond.initialized RX0]
def wsX3_hearth_r2 : List Cond := [Cond.code yX0_put cX0_put 4 none, Cond.fieldLink RX0 18 "CairnShells$Hearths" "burning" "I", Cond.fieldLink RX0 9 "CairnShells$Hearths" "first" "[I", Cond.fieldLink RX0 15 "CairnShells$Hearths" "last" "[I", Cond.methodLink RX3 98 yX3_firstYear, Cond.instanceMethod yX3_firstYear, Cond.selects RX3 yX3_firstYear yX3_firstYear, Cond.code yX3_firstYear cX3_firstYear 3 (some .int), Cond.methodLink RX3 78 yX2_alike, Cond.instanceMethod yX2_alike, Cond.selects RX2 yX2_alike yX2_alike, Cond.code yX2_alike cX2_alike 2 (some .int), Cond.fieldLink RX2 9 "CairnShells$Strata" "alikes" "[I", Cond.methodLink RX3 61 yX2_below, Cond.instanceMethod yX2_below, Cond.selects RX2 yX2_below yX2_below, Cond.code yX2_below cX2_below 2 (some .int), Cond.fieldLink RX2 15 "CairnShells$Strata" "belows" "[I", Cond.methodLink RX3 199 yX0_greatestFirst, Cond.instanceMethod yX0_greatestFirst, Cond.selects RX0 yX0_greatestFirst yX0_greatestFirst, Cond.code yX0_greatestFirst cX0_greatestFirst 4 (some .int), Cond.methodLink RX0 32 Lib.Math.max.name, Cond.static Lib.Math.max.name]
def wsX3_hearth_r3 : List Cond := [Cond.initialized "java/lang/Math", Cond.code Lib.Math.max.name Lib.Math.max.code 2 (some .int), Cond.static yX3_has, Cond.code yX3_has cX3_has 2 (some .boolean)]
def wsX3_hearth : List Cond := .code yX3_hearth cX3_hearth 4 (some .int) :: ((wsX3_hearth_r1 ++ (wsX3_hearth_r2 ++ wsX3_hearth_r3)) ++ wsX30 ++ wsX20 ++ wsX00 ++ (vx_atS RX3 88 "java/lang/IllegalArgumentException" ["java/lang/RuntimeException", "java/lang/Exception"]).filter goodWord ++ (vx_atS RX3 172 "java/lang/IndexOutOfBoundsException" ["java/lang/RuntimeException", "java/lang/Exception"]).filter goodWord)
def wsX3_clear_r1 : List Cond := [Cond.classLink RX3 37 "java/lang/IllegalStateException", Cond.initialized "java/lang/IllegalStateException", Cond.fieldLink RX3 26 "CairnShells" "hearths" "LCairnShells$Hearths;", Cond.methodLink RX3 47 yX3_checkLayer, Cond.instanceMethod yX3_checkLayer, Cond.selects RX3 yX3_checkLayer yX3_checkLayer, Cond.initialized RX3, Cond.code yX3_checkLayer cX3_checkLayer 2 none, Cond.fieldLink RX3 10 "CairnShells" "strata" "LCairnShells$Strata;", Cond.methodLink RX3 33 yX2_size, Cond.instanceMethod yX2_size, Cond.selects RX2 yX2_size yX2_size, Cond.initialized RX2, Cond.code yX2_size cX2_size 1 (some .int), Cond.fieldLink RX2 27 "CairnShells$Strata" "layers" "I", Cond.methodLink RX3 114 yX3_checkIndex, Cond.static yX3_checkIndex, Cond.code yX3_checkIndex cX3_checkIndex 2 none, Cond.classLink RX3 168 "java/lang/IndexOutOfBoundsException", Cond.initialized "java/lang/IndexOutOfBoundsException", Cond.methodLink RX3 102 yX0_isAt, Cond.instanceMethod yX0_isAt, Cond.selects RX0 yX0_isAt yX0_isAt, Cond.initialized RX0]
def wsX3_clear_r2 : List Cond := [Cond.code yX0_isAt cX0_isAt 2 (some .boolean), Cond.fieldLink RX0 18 "CairnShells$Hearths" "burning" "I", Cond.static yX3_has, Cond.code yX3_has cX3_has 2 (some .boolean), Cond.methodLink RX3 108 yX0_firstAt, Cond.instanceMethod yX0_firstAt, Cond.selects RX0 yX0_firstAt yX0_firstAt, Cond.code yX0_firstAt cX0_firstAt 2 (some .int), Cond.fieldLink RX0 9 "CairnShells$Hearths" "first" "[I", Cond.methodLink RX3 111 yX0_take, Cond.instanceMethod yX0_take, Cond.selects RX0 yX0_take yX0_take, Cond.code yX0_take cX0_take 2 none, Cond.fieldLink RX0 15 "CairnShells$Hearths" "last" "[I"]
def wsX3_clear : List Cond := .code yX3_clear cX3_clear 3 (some .int) :: ((wsX3_clear_r1 ++ wsX3_clear_r2) ++ wsX30 ++ wsX20 ++ wsX00 ++ (vx_atS RX3 41 "java/lang/IllegalStateException" ["java/lang/RuntimeException", "java/lang/Exception"]).filter goodWord ++ (vx_atS RX3 172 "java/lang/IndexOutOfBoundsException" ["java/lang/RuntimeException", "java/lang/Exception"]).filter goodWord)
def wsX3_later : List Cond := .code yX3_later cX3_later 3 (some .boolean) :: ([.fieldLink RX3 10 "CairnShells" "strata" "LCairnShells$Strata;", .methodLink RX3 47 yX3_checkLayer, .instanceMethod yX3_checkLayer, .selects RX3 yX3_checkLayer yX3_checkLayer, .initialized RX3, .code yX3_checkLayer cX3_checkLayer 2 none, .methodLink RX3 33 yX2_size, .instanceMethod yX2_size, .selects RX2 yX2_size yX2_size, .initialized RX2, .code yX2_size cX2_size 1 (some .int), .fieldLink RX2 27 "CairnShells$Strata" "layers" "I", .methodLink RX3 114 yX3_checkIndex, .static yX3_checkIndex, .code yX3_checkIndex cX3_checkIndex 2 none, .classLink RX3 168 "java/lang/IndexOutOfBoundsException", .initialized "java/lang/IndexOutOfBoundsException", .methodLink RX3 70 yX2_isLater, .instanceMethod yX2_isLater, .selects RX2 yX2_isLater yX2_isLater, .code yX2_isLater cX2_isLater 3 (some .boolean), .fieldLink RX2 15 "CairnShells$Strata" "belows" "[I", .static yX3_has, .code yX3_has cX3_has 2 (some .boolean)] ++ wsX30 ++ wsX20 ++ (vx_atS RX3 172 "java/lang/IndexOutOfBoundsException" ["java/lang/RuntimeException", "java/lang/Exception"]).filter goodWord)
def wsX3_lastYear_r1 : List Cond := [Cond.fieldLink RX3 10 "CairnShells" "strata" "LCairnShells$Strata;", Cond.methodLink RX3 78 yX2_alike, Cond.instanceMethod yX2_alike, Cond.selects RX2 yX2_alike yX2_alike, Cond.initialized RX2, Cond.code yX2_alike cX2_alike 2 (some .int), Cond.fieldLink RX2 9 "CairnShells$Strata" "alikes" "[I", Cond.methodLink RX3 127 yX2_onTop, Cond.instanceMethod yX2_onTop, Cond.selects RX2 yX2_onTop yX2_onTop, Cond.code yX2_onTop cX2_onTop 2 (some .int), Cond.fieldLink RX2 18 "CairnShells$Strata" "tops" "[I", Cond.methodLink RX3 202 yX0_leastLast, Cond.instanceMethod yX0_leastLast, Cond.selects RX0 yX0_leastLast yX0_leastLast, Cond.initialized RX0, Cond.code yX0_leastLast cX0_leastLast 4 (some .int), Cond.fieldLink RX0 15 "CairnShells$Hearths" "last" "[I", Cond.methodLink RX0 38 Lib.Math.min.name, Cond.static Lib.Math.min.name, Cond.initialized "java/lang/Math", Cond.code Lib.Math.min.name Lib.Math.min.code 2 (some .int), Cond.static yX3_has, Cond.initialized RX3]
def wsX3_lastYear_r2 : List Cond := [Cond.code yX3_has cX3_has 2 (some .boolean)]
def wsX3_lastYear : List Cond := .code yX3_lastYear cX3_lastYear 3 (some .int) :: ((wsX3_lastYear_r1 ++ wsX3_lastYear_r2) ++ wsX30 ++ wsX20 ++ wsX00)
def wsX3_isDoubtful_r1 : List Cond := [Cond.methodLink RX3 98 yX3_firstYear, Cond.instanceMethod yX3_firstYear, Cond.selects RX3 yX3_firstYear yX3_firstYear, Cond.initialized RX3, Cond.code yX3_firstYear cX3_firstYear 3 (some .int), Cond.fieldLink RX3 10 "CairnShells" "strata" "LCairnShells$Strata;", Cond.methodLink RX3 78 yX2_alike, Cond.instanceMethod yX2_alike, Cond.selects RX2 yX2_alike yX2_alike, Cond.initialized RX2, Cond.code yX2_alike cX2_alike 2 (some .int), Cond.fieldLink RX2 9 "CairnShells$Strata" "alikes" "[I", Cond.methodLink RX3 61 yX2_below, Cond.instanceMethod yX2_below, Cond.selects RX2 yX2_below yX2_below, Cond.code yX2_below cX2_below 2 (some .int), Cond.fieldLink RX2 15 "CairnShells$Strata" "belows" "[I", Cond.methodLink RX3 199 yX0_greatestFirst, Cond.instanceMethod yX0_greatestFirst, Cond.selects RX0 yX0_greatestFirst yX0_greatestFirst, Cond.initialized RX0, Cond.code yX0_greatestFirst cX0_greatestFirst 4 (some .int), Cond.fieldLink RX0 9 "CairnShells$Hearths" "first" "[I", Cond.methodLink RX0 32 Lib.Math.max.name]
def wsX3_isDoubtful_r2 : List Cond := [Cond.static Lib.Math.max.name, Cond.initialized "java/lang/Math", Cond.code Lib.Math.max.name Lib.Math.max.code 2 (some .int), Cond.static yX3_has, Cond.code yX3_has cX3_has 2 (some .boolean), Cond.methodLink RX3 173 yX3_lastYear, Cond.instanceMethod yX3_lastYear, Cond.selects RX3 yX3_lastYear yX3_lastYear, Cond.code yX3_lastYear cX3_lastYear 3 (some .int), Cond.methodLink RX3 127 yX2_onTop, Cond.instanceMethod yX2_onTop, Cond.selects RX2 yX2_onTop yX2_onTop, Cond.code yX2_onTop cX2_onTop 2 (some .int), Cond.fieldLink RX2 18 "CairnShells$Strata" "tops" "[I", Cond.methodLink RX3 202 yX0_leastLast, Cond.instanceMethod yX0_leastLast, Cond.selects RX0 yX0_leastLast yX0_leastLast, Cond.code yX0_leastLast cX0_leastLast 4 (some .int), Cond.fieldLink RX0 15 "CairnShells$Hearths" "last" "[I", Cond.methodLink RX0 38 Lib.Math.min.name, Cond.static Lib.Math.min.name, Cond.code Lib.Math.min.name Lib.Math.min.code 2 (some .int)]
def wsX3_isDoubtful : List Cond := .code yX3_isDoubtful cX3_isDoubtful 3 (some .boolean) :: ((wsX3_isDoubtful_r1 ++ wsX3_isDoubtful_r2) ++ wsX30 ++ wsX20 ++ wsX00)
def wsX3_findsOf : List Cond := .code yX3_findsOf cX3_findsOf 3 (some .int) :: ([.fieldLink RX3 19 "CairnShells" "sieve" "LCairnShells$Sieve;", .fieldLink RX3 10 "CairnShells" "strata" "LCairnShells$Strata;", .methodLink RX3 78 yX2_alike, .instanceMethod yX2_alike, .selects RX2 yX2_alike yX2_alike, .initialized RX2, .code yX2_alike cX2_alike 2 (some .int), .fieldLink RX2 9 "CairnShells$Strata" "alikes" "[I", .methodLink RX3 192 yX1_sum, .instanceMethod yX1_sum, .selects RX1 yX1_sum yX1_sum, .initialized RX1, .code yX1_sum cX1_sum 5 (some .int), .fieldLink RX1 9 "CairnShells$Sieve" "many" "[I", .static yX3_has, .initialized RX3, .code yX3_has cX3_has 2 (some .boolean)] ++ wsX30 ++ wsX20 ++ wsX10)
def wsX3_weight : List Cond := .code yX3_weight cX3_weight 5 (some .int) :: ([])
def wsX3_season : List Cond := .code yX3_season cX3_season 10 (some .int) :: ([.methodLink RX3 121 yX3_findsOf, .instanceMethod yX3_findsOf, .selects RX3 yX3_findsOf yX3_findsOf, .initialized RX3, .code yX3_findsOf cX3_findsOf 3 (some .int), .fieldLink RX3 19 "CairnShells" "sieve" "LCairnShells$Sieve;", .fieldLink RX3 10 "CairnShells" "strata" "LCairnShells$Strata;", .methodLink RX3 78 yX2_alike, .instanceMethod yX2_alike, .selects RX2 yX2_alike yX2_alike, .initialized RX2, .code yX2_alike cX2_alike 2 (some .int), .fieldLink RX2 9 "CairnShells$Strata" "alikes" "[I", .methodLink RX3 192 yX1_sum, .instanceMethod yX1_sum, .selects RX1 yX1_sum yX1_sum, .initialized RX1, .code yX1_sum cX1_sum 5 (some .int), .fieldLink RX1 9 "CairnShells$Sieve" "many" "[I", .static yX3_has, .code yX3_has cX3_has 2 (some .boolean), .methodLink RX3 195 yX3_weight, .static yX3_weight, .code yX3_weight cX3_weight 5 (some .int)] ++ wsX30 ++ wsX20 ++ wsX10)
def wsX3_toldOf_r1 : List Cond := [Cond.fieldLink RX3 26 "CairnShells" "hearths" "LCairnShells$Hearths;", Cond.fieldLink RX3 10 "CairnShells" "strata" "LCairnShells$Strata;", Cond.methodLink RX3 98 yX3_firstYear, Cond.instanceMethod yX3_firstYear, Cond.selects RX3 yX3_firstYear yX3_firstYear, Cond.initialized RX3, Cond.code yX3_firstYear cX3_firstYear 3 (some .int), Cond.methodLink RX3 78 yX2_alike, Cond.instanceMethod yX2_alike, Cond.selects RX2 yX2_alike yX2_alike, Cond.initialized RX2, Cond.code yX2_alike cX2_alike 2 (some .int), Cond.fieldLink RX2 9 "CairnShells$Strata" "alikes" "[I", Cond.methodLink RX3 61 yX2_below, Cond.instanceMethod yX2_below, Cond.selects RX2 yX2_below yX2_below, Cond.code yX2_below cX2_below 2 (some .int), Cond.fieldLink RX2 15 "CairnShells$Strata" "belows" "[I", Cond.methodLink RX3 199 yX0_greatestFirst, Cond.instanceMethod yX0_greatestFirst, Cond.selects RX0 yX0_greatestFirst yX0_greatestFirst, Cond.initialized RX0, Cond.code yX0_greatestFirst cX0_greatestFirst 4 (some .int), Cond.fieldLink RX0 9 "CairnShells$Hearths" "first" "[I"]
def wsX3_toldOf_r2 : List Cond := [Cond.methodLink RX0 32 Lib.Math.max.name, Cond.static Lib.Math.max.name, Cond.initialized "java/lang/Math", Cond.code Lib.Math.max.name Lib.Math.max.code 2 (some .int), Cond.static yX3_has, Cond.code yX3_has cX3_has 2 (some .boolean), Cond.methodLink RX3 173 yX3_lastYear, Cond.instanceMethod yX3_lastYear, Cond.selects RX3 yX3_lastYear yX3_lastYear, Cond.code yX3_lastYear cX3_lastYear 3 (some .int), Cond.methodLink RX3 127 yX2_onTop, Cond.instanceMethod yX2_onTop, Cond.selects RX2 yX2_onTop yX2_onTop, Cond.code yX2_onTop cX2_onTop 2 (some .int), Cond.fieldLink RX2 18 "CairnShells$Strata" "tops" "[I", Cond.methodLink RX3 202 yX0_leastLast, Cond.instanceMethod yX0_leastLast, Cond.selects RX0 yX0_leastLast yX0_leastLast, Cond.code yX0_leastLast cX0_leastLast 4 (some .int), Cond.fieldLink RX0 15 "CairnShells$Hearths" "last" "[I", Cond.methodLink RX0 38 Lib.Math.min.name, Cond.static Lib.Math.min.name, Cond.code Lib.Math.min.name Lib.Math.min.code 2 (some .int), Cond.methodLink RX3 143 yX3_isDoubtful]
def wsX3_toldOf_r3 : List Cond := [Cond.instanceMethod yX3_isDoubtful, Cond.selects RX3 yX3_isDoubtful yX3_isDoubtful, Cond.code yX3_isDoubtful cX3_isDoubtful 3 (some .boolean), Cond.methodLink RX3 153 yX2_phase, Cond.instanceMethod yX2_phase, Cond.selects RX2 yX2_phase yX2_phase, Cond.code yX2_phase cX2_phase 2 (some .int), Cond.fieldLink RX2 24 "CairnShells$Strata" "phaseOf" "[I", Cond.methodLink RX3 65 yJ6_bitCount_0f7a4, Cond.static yJ6_bitCount_0f7a4, Cond.initialized RJ6, Cond.code yJ6_bitCount_0f7a4 cJ6_bitCount_0f7a4 1 (some .int), Cond.constant RJ6 265 (1431655765), Cond.constant RJ6 266 (858993459), Cond.constant RJ6 267 (252645135), Cond.methodLink RX3 176 yX3_season, Cond.instanceMethod yX3_season, Cond.selects RX3 yX3_season yX3_season, Cond.code yX3_season cX3_season 10 (some .int), Cond.methodLink RX3 121 yX3_findsOf, Cond.instanceMethod yX3_findsOf, Cond.selects RX3 yX3_findsOf yX3_findsOf, Cond.code yX3_findsOf cX3_findsOf 3 (some .int), Cond.fieldLink RX3 19 "CairnShells" "sieve" "LCairnShells$Sieve;"]
def wsX3_toldOf_r4 : List Cond := [Cond.methodLink RX3 192 yX1_sum, Cond.instanceMethod yX1_sum, Cond.selects RX1 yX1_sum yX1_sum, Cond.initialized RX1, Cond.code yX1_sum cX1_sum 5 (some .int), Cond.fieldLink RX1 9 "CairnShells$Sieve" "many" "[I", Cond.methodLink RX3 195 yX3_weight, Cond.static yX3_weight, Cond.code yX3_weight cX3_weight 5 (some .int), Cond.methodLink RX3 102 yX0_isAt, Cond.instanceMethod yX0_isAt, Cond.selects RX0 yX0_isAt yX0_isAt, Cond.code yX0_isAt cX0_isAt 2 (some .boolean), Cond.fieldLink RX0 18 "CairnShells$Hearths" "burning" "I"]
def wsX3_toldOf : List Cond := .code yX3_toldOf cX3_toldOf 3 (some .int) :: ((wsX3_toldOf_r1 ++ (wsX3_toldOf_r2 ++ (wsX3_toldOf_r3 ++ wsX3_toldOf_r4))) ++ wsX30 ++ wsX20 ++ wsX00 ++ wsX10)
def wsX3_told_r1 : List Cond := [Cond.methodLink RX3 47 yX3_checkLayer, Cond.instanceMethod yX3_checkLayer, Cond.selects RX3 yX3_checkLayer yX3_checkLayer, Cond.initialized RX3, Cond.code yX3_checkLayer cX3_checkLayer 2 none, Cond.fieldLink RX3 10 "CairnShells" "strata" "LCairnShells$Strata;", Cond.methodLink RX3 33 yX2_size, Cond.instanceMethod yX2_size, Cond.selects RX2 yX2_size yX2_size, Cond.initialized RX2, Cond.code yX2_size cX2_size 1 (some .int), Cond.fieldLink RX2 27 "CairnShells$Strata" "layers" "I", Cond.methodLink RX3 114 yX3_checkIndex, Cond.static yX3_checkIndex, Cond.code yX3_checkIndex cX3_checkIndex 2 none, Cond.classLink RX3 168 "java/lang/IndexOutOfBoundsException", Cond.initialized "java/lang/IndexOutOfBoundsException", Cond.methodLink RX3 117 yX3_toldOf, Cond.instanceMethod yX3_toldOf, Cond.selects RX3 yX3_toldOf yX3_toldOf, Cond.code yX3_toldOf cX3_toldOf 3 (some .int), Cond.fieldLink RX3 26 "CairnShells" "hearths" "LCairnShells$Hearths;", Cond.methodLink RX3 98 yX3_firstYear, Cond.instanceMethod yX3_firstYear]
def wsX3_told_r2 : List Cond := [Cond.selects RX3 yX3_firstYear yX3_firstYear, Cond.code yX3_firstYear cX3_firstYear 3 (some .int), Cond.methodLink RX3 78 yX2_alike, Cond.instanceMethod yX2_alike, Cond.selects RX2 yX2_alike yX2_alike, Cond.code yX2_alike cX2_alike 2 (some .int), Cond.fieldLink RX2 9 "CairnShells$Strata" "alikes" "[I", Cond.methodLink RX3 61 yX2_below, Cond.instanceMethod yX2_below, Cond.selects RX2 yX2_below yX2_below, Cond.code yX2_below cX2_below 2 (some .int), Cond.fieldLink RX2 15 "CairnShells$Strata" "belows" "[I", Cond.methodLink RX3 199 yX0_greatestFirst, Cond.instanceMethod yX0_greatestFirst, Cond.selects RX0 yX0_greatestFirst yX0_greatestFirst, Cond.initialized RX0, Cond.code yX0_greatestFirst cX0_greatestFirst 4 (some .int), Cond.fieldLink RX0 9 "CairnShells$Hearths" "first" "[I", Cond.methodLink RX0 32 Lib.Math.max.name, Cond.static Lib.Math.max.name, Cond.initialized "java/lang/Math", Cond.code Lib.Math.max.name Lib.Math.max.code 2 (some .int), Cond.static yX3_has, Cond.code yX3_has cX3_has 2 (some .boolean)]
def wsX3_told_r3 : List Cond := [Cond.methodLink RX3 173 yX3_lastYear, Cond.instanceMethod yX3_lastYear, Cond.selects RX3 yX3_lastYear yX3_lastYear, Cond.code yX3_lastYear cX3_lastYear 3 (some .int), Cond.methodLink RX3 127 yX2_onTop, Cond.instanceMethod yX2_onTop, Cond.selects RX2 yX2_onTop yX2_onTop, Cond.code yX2_onTop cX2_onTop 2 (some .int), Cond.fieldLink RX2 18 "CairnShells$Strata" "tops" "[I", Cond.methodLink RX3 202 yX0_leastLast, Cond.instanceMethod yX0_leastLast, Cond.selects RX0 yX0_leastLast yX0_leastLast, Cond.code yX0_leastLast cX0_leastLast 4 (some .int), Cond.fieldLink RX0 15 "CairnShells$Hearths" "last" "[I", Cond.methodLink RX0 38 Lib.Math.min.name, Cond.static Lib.Math.min.name, Cond.code Lib.Math.min.name Lib.Math.min.code 2 (some .int), Cond.methodLink RX3 143 yX3_isDoubtful, Cond.instanceMethod yX3_isDoubtful, Cond.selects RX3 yX3_isDoubtful yX3_isDoubtful, Cond.code yX3_isDoubtful cX3_isDoubtful 3 (some .boolean), Cond.methodLink RX3 153 yX2_phase, Cond.instanceMethod yX2_phase, Cond.selects RX2 yX2_phase yX2_phase]
def wsX3_told_r4 : List Cond := [Cond.code yX2_phase cX2_phase 2 (some .int), Cond.fieldLink RX2 24 "CairnShells$Strata" "phaseOf" "[I", Cond.methodLink RX3 65 yJ6_bitCount_0f7a4, Cond.static yJ6_bitCount_0f7a4, Cond.initialized RJ6, Cond.code yJ6_bitCount_0f7a4 cJ6_bitCount_0f7a4 1 (some .int), Cond.constant RJ6 265 (1431655765), Cond.constant RJ6 266 (858993459), Cond.constant RJ6 267 (252645135), Cond.methodLink RX3 176 yX3_season, Cond.instanceMethod yX3_season, Cond.selects RX3 yX3_season yX3_season, Cond.code yX3_season cX3_season 10 (some .int), Cond.methodLink RX3 121 yX3_findsOf, Cond.instanceMethod yX3_findsOf, Cond.selects RX3 yX3_findsOf yX3_findsOf, Cond.code yX3_findsOf cX3_findsOf 3 (some .int), Cond.fieldLink RX3 19 "CairnShells" "sieve" "LCairnShells$Sieve;", Cond.methodLink RX3 192 yX1_sum, Cond.instanceMethod yX1_sum, Cond.selects RX1 yX1_sum yX1_sum, Cond.initialized RX1, Cond.code yX1_sum cX1_sum 5 (some .int), Cond.fieldLink RX1 9 "CairnShells$Sieve" "many" "[I"]
def wsX3_told_r5 : List Cond := [Cond.methodLink RX3 195 yX3_weight, Cond.static yX3_weight, Cond.code yX3_weight cX3_weight 5 (some .int), Cond.methodLink RX3 102 yX0_isAt, Cond.instanceMethod yX0_isAt, Cond.selects RX0 yX0_isAt yX0_isAt, Cond.code yX0_isAt cX0_isAt 2 (some .boolean), Cond.fieldLink RX0 18 "CairnShells$Hearths" "burning" "I"]
def wsX3_told : List Cond := .code yX3_told cX3_told 3 (some .int) :: ((wsX3_told_r1 ++ (wsX3_told_r2 ++ (wsX3_told_r3 ++ (wsX3_told_r4 ++ wsX3_told_r5)))) ++ wsX30 ++ wsX20 ++ wsX00 ++ wsX10 ++ (vx_atS RX3 172 "java/lang/IndexOutOfBoundsException" ["java/lang/RuntimeException", "java/lang/Exception"]).filter goodWord)
def wsX3_finds_r1 : List Cond := [Cond.methodLink RX3 47 yX3_checkLayer, Cond.instanceMethod yX3_checkLayer, Cond.selects RX3 yX3_checkLayer yX3_checkLayer, Cond.initialized RX3, Cond.code yX3_checkLayer cX3_checkLayer 2 none, Cond.fieldLink RX3 10 "CairnShells" "strata" "LCairnShells$Strata;", Cond.methodLink RX3 33 yX2_size, Cond.instanceMethod yX2_size, Cond.selects RX2 yX2_size yX2_size, Cond.initialized RX2, Cond.code yX2_size cX2_size 1 (some .int), Cond.fieldLink RX2 27 "CairnShells$Strata" "layers" "I", Cond.methodLink RX3 114 yX3_checkIndex, Cond.static yX3_checkIndex, Cond.code yX3_checkIndex cX3_checkIndex 2 none, Cond.classLink RX3 168 "java/lang/IndexOutOfBoundsException", Cond.initialized "java/lang/IndexOutOfBoundsException", Cond.methodLink RX3 81 yX3_checkKind, Cond.static yX3_checkKind, Cond.code yX3_checkKind cX3_checkKind 1 none, Cond.methodLink RX3 121 yX3_findsOf, Cond.instanceMethod yX3_findsOf, Cond.selects RX3 yX3_findsOf yX3_findsOf, Cond.code yX3_findsOf cX3_findsOf 3 (some .int)]
def wsX3_finds_r2 : List Cond := [Cond.fieldLink RX3 19 "CairnShells" "sieve" "LCairnShells$Sieve;", Cond.methodLink RX3 78 yX2_alike, Cond.instanceMethod yX2_alike, Cond.selects RX2 yX2_alike yX2_alike, Cond.code yX2_alike cX2_alike 2 (some .int), Cond.fieldLink RX2 9 "CairnShells$Strata" "alikes" "[I", Cond.methodLink RX3 192 yX1_sum, Cond.instanceMethod yX1_sum, Cond.selects RX1 yX1_sum yX1_sum, Cond.initialized RX1, Cond.code yX1_sum cX1_sum 5 (some .int), Cond.fieldLink RX1 9 "CairnShells$Sieve" "many" "[I", Cond.static yX3_has, Cond.code yX3_has cX3_has 2 (some .boolean)]
def wsX3_finds : List Cond := .code yX3_finds cX3_finds 3 (some .int) :: ((wsX3_finds_r1 ++ wsX3_finds_r2) ++ wsX30 ++ wsX20 ++ wsX10 ++ (vx_atS RX3 172 "java/lang/IndexOutOfBoundsException" ["java/lang/RuntimeException", "java/lang/Exception"]).filter goodWord)
def wsX3_order : List Cond := .code yX3_order cX3_order 2 (some .int) :: ([.fieldLink RX3 10 "CairnShells" "strata" "LCairnShells$Strata;", .methodLink RX3 33 yX2_size, .instanceMethod yX2_size, .selects RX2 yX2_size yX2_size, .initialized RX2, .code yX2_size cX2_size 1 (some .int), .fieldLink RX2 27 "CairnShells$Strata" "layers" "I", .methodLink RX3 114 yX3_checkIndex, .static yX3_checkIndex, .initialized RX3, .code yX3_checkIndex cX3_checkIndex 2 none, .classLink RX3 168 "java/lang/IndexOutOfBoundsException", .initialized "java/lang/IndexOutOfBoundsException", .methodLink RX3 124 yX2_placed, .instanceMethod yX2_placed, .selects RX2 yX2_placed yX2_placed, .code yX2_placed cX2_placed 2 (some .int), .fieldLink RX2 21 "CairnShells$Strata" "order" "[I"] ++ wsX30 ++ wsX20 ++ (vx_atS RX3 172 "java/lang/IndexOutOfBoundsException" ["java/lang/RuntimeException", "java/lang/Exception"]).filter goodWord)
def wsX3_between_r1 : List Cond := [Cond.fieldLink RX3 10 "CairnShells" "strata" "LCairnShells$Strata;", Cond.methodLink RX3 47 yX3_checkLayer, Cond.instanceMethod yX3_checkLayer, Cond.selects RX3 yX3_checkLayer yX3_checkLayer, Cond.initialized RX3, Cond.code yX3_checkLayer cX3_checkLayer 2 none, Cond.methodLink RX3 33 yX2_size, Cond.instanceMethod yX2_size, Cond.selects RX2 yX2_size yX2_size, Cond.initialized RX2, Cond.code yX2_size cX2_size 1 (some .int), Cond.fieldLink RX2 27 "CairnShells$Strata" "layers" "I", Cond.methodLink RX3 114 yX3_checkIndex, Cond.static yX3_checkIndex, Cond.code yX3_checkIndex cX3_checkIndex 2 none, Cond.classLink RX3 168 "java/lang/IndexOutOfBoundsException", Cond.initialized "java/lang/IndexOutOfBoundsException", Cond.methodLink RX3 70 yX2_isLater, Cond.instanceMethod yX2_isLater, Cond.selects RX2 yX2_isLater yX2_isLater, Cond.code yX2_isLater cX2_isLater 3 (some .boolean), Cond.fieldLink RX2 15 "CairnShells$Strata" "belows" "[I", Cond.static yX3_has, Cond.code yX3_has cX3_has 2 (some .boolean)]
def wsX3_between_r2 : List Cond := [Cond.methodLink RX3 61 yX2_below, Cond.instanceMethod yX2_below, Cond.selects RX2 yX2_below yX2_below, Cond.code yX2_below cX2_below 2 (some .int), Cond.methodLink RX3 127 yX2_onTop, Cond.instanceMethod yX2_onTop, Cond.selects RX2 yX2_onTop yX2_onTop, Cond.code yX2_onTop cX2_onTop 2 (some .int), Cond.fieldLink RX2 18 "CairnShells$Strata" "tops" "[I", Cond.methodLink RX3 65 yJ6_bitCount_0f7a4, Cond.static yJ6_bitCount_0f7a4, Cond.initialized RJ6, Cond.code yJ6_bitCount_0f7a4 cJ6_bitCount_0f7a4 1 (some .int), Cond.constant RJ6 265 (1431655765), Cond.constant RJ6 266 (858993459), Cond.constant RJ6 267 (252645135)]
def wsX3_between : List Cond := .code yX3_between cX3_between 3 (some .int) :: ((wsX3_between_r1 ++ wsX3_between_r2) ++ wsX30 ++ wsX20 ++ (vx_atS RX3 172 "java/lang/IndexOutOfBoundsException" ["java/lang/RuntimeException", "java/lang/Exception"]).filter goodWord)
def wsX3_doubtfulLayers_r1 : List Cond := [Cond.fieldLink RX3 10 "CairnShells" "strata" "LCairnShells$Strata;", Cond.methodLink RX3 33 yX2_size, Cond.instanceMethod yX2_size, Cond.selects RX2 yX2_size yX2_size, Cond.initialized RX2, Cond.code yX2_size cX2_size 1 (some .int), Cond.fieldLink RX2 27 "CairnShells$Strata" "layers" "I", Cond.methodLink RX3 143 yX3_isDoubtful, Cond.instanceMethod yX3_isDoubtful, Cond.selects RX3 yX3_isDoubtful yX3_isDoubtful, Cond.initialized RX3, Cond.code yX3_isDoubtful cX3_isDoubtful 3 (some .boolean), Cond.methodLink RX3 98 yX3_firstYear, Cond.instanceMethod yX3_firstYear, Cond.selects RX3 yX3_firstYear yX3_firstYear, Cond.code yX3_firstYear cX3_firstYear 3 (some .int), Cond.methodLink RX3 78 yX2_alike, Cond.instanceMethod yX2_alike, Cond.selects RX2 yX2_alike yX2_alike, Cond.code yX2_alike cX2_alike 2 (some .int), Cond.fieldLink RX2 9 "CairnShells$Strata" "alikes" "[I", Cond.methodLink RX3 61 yX2_below, Cond.instanceMethod yX2_below, Cond.selects RX2 yX2_below yX2_below]
def wsX3_doubtfulLayers_r2 : List Cond := [Cond.code yX2_below cX2_below 2 (some .int), Cond.fieldLink RX2 15 "CairnShells$Strata" "belows" "[I", Cond.methodLink RX3 199 yX0_greatestFirst, Cond.instanceMethod yX0_greatestFirst, Cond.selects RX0 yX0_greatestFirst yX0_greatestFirst, Cond.initialized RX0, Cond.code yX0_greatestFirst cX0_greatestFirst 4 (some .int), Cond.fieldLink RX0 9 "CairnShells$Hearths" "first" "[I", Cond.methodLink RX0 32 Lib.Math.max.name, Cond.static Lib.Math.max.name, Cond.initialized "java/lang/Math", Cond.code Lib.Math.max.name Lib.Math.max.code 2 (some .int), Cond.static yX3_has, Cond.code yX3_has cX3_has 2 (some .boolean), Cond.methodLink RX3 173 yX3_lastYear, Cond.instanceMethod yX3_lastYear, Cond.selects RX3 yX3_lastYear yX3_lastYear, Cond.code yX3_lastYear cX3_lastYear 3 (some .int), Cond.methodLink RX3 127 yX2_onTop, Cond.instanceMethod yX2_onTop, Cond.selects RX2 yX2_onTop yX2_onTop, Cond.code yX2_onTop cX2_onTop 2 (some .int), Cond.fieldLink RX2 18 "CairnShells$Strata" "tops" "[I", Cond.methodLink RX3 202 yX0_leastLast]
def wsX3_doubtfulLayers_r3 : List Cond := [Cond.instanceMethod yX0_leastLast, Cond.selects RX0 yX0_leastLast yX0_leastLast, Cond.code yX0_leastLast cX0_leastLast 4 (some .int), Cond.fieldLink RX0 15 "CairnShells$Hearths" "last" "[I", Cond.methodLink RX0 38 Lib.Math.min.name, Cond.static Lib.Math.min.name, Cond.code Lib.Math.min.name Lib.Math.min.code 2 (some .int)]
def wsX3_doubtfulLayers : List Cond := .code yX3_doubtfulLayers cX3_doubtfulLayers 4 (some .int) :: ((wsX3_doubtfulLayers_r1 ++ (wsX3_doubtfulLayers_r2 ++ wsX3_doubtfulLayers_r3)) ++ wsX30 ++ wsX20 ++ wsX00)
def wsX3_counted_r1 : List Cond := [Cond.fieldLink RX3 10 "CairnShells" "strata" "LCairnShells$Strata;", Cond.fieldLink RX3 26 "CairnShells" "hearths" "LCairnShells$Hearths;", Cond.fieldLink RX3 19 "CairnShells" "sieve" "LCairnShells$Sieve;", Cond.methodLink RX3 33 yX2_size, Cond.instanceMethod yX2_size, Cond.selects RX2 yX2_size yX2_size, Cond.initialized RX2, Cond.code yX2_size cX2_size 1 (some .int), Cond.fieldLink RX2 27 "CairnShells$Strata" "layers" "I", Cond.methodLink RX3 179 yX2_phases, Cond.instanceMethod yX2_phases, Cond.selects RX2 yX2_phases yX2_phases, Cond.code yX2_phases cX2_phases 3 (some .int), Cond.fieldLink RX2 24 "CairnShells$Strata" "phaseOf" "[I", Cond.methodLink RX2 52 Lib.Math.max.name, Cond.static Lib.Math.max.name, Cond.initialized "java/lang/Math", Cond.code Lib.Math.max.name Lib.Math.max.code 2 (some .int), Cond.methodLink RX3 133 yX3_doubtfulLayers, Cond.instanceMethod yX3_doubtfulLayers, Cond.selects RX3 yX3_doubtfulLayers yX3_doubtfulLayers, Cond.initialized RX3, Cond.code yX3_doubtfulLayers cX3_doubtfulLayers 4 (some .int), Cond.methodLink RX3 143 yX3_isDoubtful]
def wsX3_counted_r2 : List Cond := [Cond.instanceMethod yX3_isDoubtful, Cond.selects RX3 yX3_isDoubtful yX3_isDoubtful, Cond.code yX3_isDoubtful cX3_isDoubtful 3 (some .boolean), Cond.methodLink RX3 98 yX3_firstYear, Cond.instanceMethod yX3_firstYear, Cond.selects RX3 yX3_firstYear yX3_firstYear, Cond.code yX3_firstYear cX3_firstYear 3 (some .int), Cond.methodLink RX3 78 yX2_alike, Cond.instanceMethod yX2_alike, Cond.selects RX2 yX2_alike yX2_alike, Cond.code yX2_alike cX2_alike 2 (some .int), Cond.fieldLink RX2 9 "CairnShells$Strata" "alikes" "[I", Cond.methodLink RX3 61 yX2_below, Cond.instanceMethod yX2_below, Cond.selects RX2 yX2_below yX2_below, Cond.code yX2_below cX2_below 2 (some .int), Cond.fieldLink RX2 15 "CairnShells$Strata" "belows" "[I", Cond.methodLink RX3 199 yX0_greatestFirst, Cond.instanceMethod yX0_greatestFirst, Cond.selects RX0 yX0_greatestFirst yX0_greatestFirst, Cond.initialized RX0, Cond.code yX0_greatestFirst cX0_greatestFirst 4 (some .int), Cond.fieldLink RX0 9 "CairnShells$Hearths" "first" "[I", Cond.methodLink RX0 32 Lib.Math.max.name]
def wsX3_counted_r3 : List Cond := [Cond.static yX3_has, Cond.code yX3_has cX3_has 2 (some .boolean), Cond.methodLink RX3 173 yX3_lastYear, Cond.instanceMethod yX3_lastYear, Cond.selects RX3 yX3_lastYear yX3_lastYear, Cond.code yX3_lastYear cX3_lastYear 3 (some .int), Cond.methodLink RX3 127 yX2_onTop, Cond.instanceMethod yX2_onTop, Cond.selects RX2 yX2_onTop yX2_onTop, Cond.code yX2_onTop cX2_onTop 2 (some .int), Cond.fieldLink RX2 18 "CairnShells$Strata" "tops" "[I", Cond.methodLink RX3 202 yX0_leastLast, Cond.instanceMethod yX0_leastLast, Cond.selects RX0 yX0_leastLast yX0_leastLast, Cond.code yX0_leastLast cX0_leastLast 4 (some .int), Cond.fieldLink RX0 15 "CairnShells$Hearths" "last" "[I", Cond.methodLink RX0 38 Lib.Math.min.name, Cond.static Lib.Math.min.name, Cond.code Lib.Math.min.name Lib.Math.min.code 2 (some .int), Cond.methodLink RX3 182 yX0_size, Cond.instanceMethod yX0_size, Cond.selects RX0 yX0_size yX0_size, Cond.code yX0_size cX0_size 1 (some .int), Cond.fieldLink RX0 18 "CairnShells$Hearths" "burning" "I"]
def wsX3_counted_r4 : List Cond := [Cond.methodLink RX0 22 yJ6_bitCount_0f7a4, Cond.static yJ6_bitCount_0f7a4, Cond.initialized RJ6, Cond.code yJ6_bitCount_0f7a4 cJ6_bitCount_0f7a4 1 (some .int), Cond.constant RJ6 265 (1431655765), Cond.constant RJ6 266 (858993459), Cond.constant RJ6 267 (252645135), Cond.methodLink RX3 183 yX2_pairs, Cond.instanceMethod yX2_pairs, Cond.selects RX2 yX2_pairs yX2_pairs, Cond.code yX2_pairs cX2_pairs 3 (some .int), Cond.methodLink RX2 58 yJ6_bitCount_0f7a4, Cond.methodLink RX3 186 yX2_sorts, Cond.instanceMethod yX2_sorts, Cond.selects RX2 yX2_sorts yX2_sorts, Cond.code yX2_sorts cX2_sorts 3 (some .int), Cond.methodLink RX3 189 yX1_all, Cond.instanceMethod yX1_all, Cond.selects RX1 yX1_all yX1_all, Cond.initialized RX1, Cond.code yX1_all cX1_all 3 (some .int), Cond.fieldLink RX1 9 "CairnShells$Sieve" "many" "[I"]
def wsX3_counted : List Cond := .code yX3_counted cX3_counted 2 (some .int) :: ((wsX3_counted_r1 ++ (wsX3_counted_r2 ++ (wsX3_counted_r3 ++ wsX3_counted_r4))) ++ wsX30 ++ wsX20 ++ wsX00 ++ wsX10)
def wsX3_count_r1 : List Cond := [Cond.methodLink RX3 114 yX3_checkIndex, Cond.static yX3_checkIndex, Cond.initialized RX3, Cond.code yX3_checkIndex cX3_checkIndex 2 none, Cond.classLink RX3 168 "java/lang/IndexOutOfBoundsException", Cond.initialized "java/lang/IndexOutOfBoundsException", Cond.methodLink RX3 130 yX3_counted, Cond.instanceMethod yX3_counted, Cond.selects RX3 yX3_counted yX3_counted, Cond.code yX3_counted cX3_counted 2 (some .int), Cond.fieldLink RX3 10 "CairnShells" "strata" "LCairnShells$Strata;", Cond.fieldLink RX3 26 "CairnShells" "hearths" "LCairnShells$Hearths;", Cond.fieldLink RX3 19 "CairnShells" "sieve" "LCairnShells$Sieve;", Cond.methodLink RX3 33 yX2_size, Cond.instanceMethod yX2_size, Cond.selects RX2 yX2_size yX2_size, Cond.initialized RX2, Cond.code yX2_size cX2_size 1 (some .int), Cond.fieldLink RX2 27 "CairnShells$Strata" "layers" "I", Cond.methodLink RX3 179 yX2_phases, Cond.instanceMethod yX2_phases, Cond.selects RX2 yX2_phases yX2_phases, Cond.code yX2_phases cX2_phases 3 (some .int), Cond.fieldLink RX2 24 "CairnShells$Strata" "phaseOf" "[I"]
def wsX3_count_r2 : List Cond := [Cond.methodLink RX2 52 Lib.Math.max.name, Cond.static Lib.Math.max.name, Cond.initialized "java/lang/Math", Cond.code Lib.Math.max.name Lib.Math.max.code 2 (some .int), Cond.methodLink RX3 133 yX3_doubtfulLayers, Cond.instanceMethod yX3_doubtfulLayers, Cond.selects RX3 yX3_doubtfulLayers yX3_doubtfulLayers, Cond.code yX3_doubtfulLayers cX3_doubtfulLayers 4 (some .int), Cond.methodLink RX3 143 yX3_isDoubtful, Cond.instanceMethod yX3_isDoubtful, Cond.selects RX3 yX3_isDoubtful yX3_isDoubtful, Cond.code yX3_isDoubtful cX3_isDoubtful 3 (some .boolean), Cond.methodLink RX3 98 yX3_firstYear, Cond.instanceMethod yX3_firstYear, Cond.selects RX3 yX3_firstYear yX3_firstYear, Cond.code yX3_firstYear cX3_firstYear 3 (some .int), Cond.methodLink RX3 78 yX2_alike, Cond.instanceMethod yX2_alike, Cond.selects RX2 yX2_alike yX2_alike, Cond.code yX2_alike cX2_alike 2 (some .int), Cond.fieldLink RX2 9 "CairnShells$Strata" "alikes" "[I", Cond.methodLink RX3 61 yX2_below, Cond.instanceMethod yX2_below, Cond.selects RX2 yX2_below yX2_below]
def wsX3_count_r3 : List Cond := [Cond.code yX2_below cX2_below 2 (some .int), Cond.fieldLink RX2 15 "CairnShells$Strata" "belows" "[I", Cond.methodLink RX3 199 yX0_greatestFirst, Cond.instanceMethod yX0_greatestFirst, Cond.selects RX0 yX0_greatestFirst yX0_greatestFirst, Cond.initialized RX0, Cond.code yX0_greatestFirst cX0_greatestFirst 4 (some .int), Cond.fieldLink RX0 9 "CairnShells$Hearths" "first" "[I", Cond.methodLink RX0 32 Lib.Math.max.name, Cond.static yX3_has, Cond.code yX3_has cX3_has 2 (some .boolean), Cond.methodLink RX3 173 yX3_lastYear, Cond.instanceMethod yX3_lastYear, Cond.selects RX3 yX3_lastYear yX3_lastYear, Cond.code yX3_lastYear cX3_lastYear 3 (some .int), Cond.methodLink RX3 127 yX2_onTop, Cond.instanceMethod yX2_onTop, Cond.selects RX2 yX2_onTop yX2_onTop, Cond.code yX2_onTop cX2_onTop 2 (some .int), Cond.fieldLink RX2 18 "CairnShells$Strata" "tops" "[I", Cond.methodLink RX3 202 yX0_leastLast, Cond.instanceMethod yX0_leastLast, Cond.selects RX0 yX0_leastLast yX0_leastLast, Cond.code yX0_leastLast cX0_leastLast 4 (some .int)]
def wsX3_count_r4 : List Cond := [Cond.fieldLink RX0 15 "CairnShells$Hearths" "last" "[I", Cond.methodLink RX0 38 Lib.Math.min.name, Cond.static Lib.Math.min.name, Cond.code Lib.Math.min.name Lib.Math.min.code 2 (some .int), Cond.methodLink RX3 182 yX0_size, Cond.instanceMethod yX0_size, Cond.selects RX0 yX0_size yX0_size, Cond.code yX0_size cX0_size 1 (some .int), Cond.fieldLink RX0 18 "CairnShells$Hearths" "burning" "I", Cond.methodLink RX0 22 yJ6_bitCount_0f7a4, Cond.static yJ6_bitCount_0f7a4, Cond.initialized RJ6, Cond.code yJ6_bitCount_0f7a4 cJ6_bitCount_0f7a4 1 (some .int), Cond.constant RJ6 265 (1431655765), Cond.constant RJ6 266 (858993459), Cond.constant RJ6 267 (252645135), Cond.methodLink RX3 183 yX2_pairs, Cond.instanceMethod yX2_pairs, Cond.selects RX2 yX2_pairs yX2_pairs, Cond.code yX2_pairs cX2_pairs 3 (some .int), Cond.methodLink RX2 58 yJ6_bitCount_0f7a4, Cond.methodLink RX3 186 yX2_sorts, Cond.instanceMethod yX2_sorts, Cond.selects RX2 yX2_sorts yX2_sorts]
def wsX3_count_r5 : List Cond := [Cond.code yX2_sorts cX2_sorts 3 (some .int), Cond.methodLink RX3 189 yX1_all, Cond.instanceMethod yX1_all, Cond.selects RX1 yX1_all yX1_all, Cond.initialized RX1, Cond.code yX1_all cX1_all 3 (some .int), Cond.fieldLink RX1 9 "CairnShells$Sieve" "many" "[I"]
def wsX3_count : List Cond := .code yX3_count cX3_count 2 (some .int) :: ((wsX3_count_r1 ++ (wsX3_count_r2 ++ (wsX3_count_r3 ++ (wsX3_count_r4 ++ wsX3_count_r5)))) ++ wsX30 ++ wsX20 ++ wsX00 ++ wsX10 ++ (vx_atS RX3 172 "java/lang/IndexOutOfBoundsException" ["java/lang/RuntimeException", "java/lang/Exception"]).filter goodWord)
def wsX3_blame_r1 : List Cond := [Cond.fieldLink RX3 26 "CairnShells" "hearths" "LCairnShells$Hearths;", Cond.fieldLink RX3 10 "CairnShells" "strata" "LCairnShells$Strata;", Cond.fieldLink RX3 30 "CairnShells" "trial" "LCairnShells$Hearths;", Cond.methodLink RX3 133 yX3_doubtfulLayers, Cond.instanceMethod yX3_doubtfulLayers, Cond.selects RX3 yX3_doubtfulLayers yX3_doubtfulLayers, Cond.initialized RX3, Cond.code yX3_doubtfulLayers cX3_doubtfulLayers 4 (some .int), Cond.methodLink RX3 33 yX2_size, Cond.instanceMethod yX2_size, Cond.selects RX2 yX2_size yX2_size, Cond.initialized RX2, Cond.code yX2_size cX2_size 1 (some .int), Cond.fieldLink RX2 27 "CairnShells$Strata" "layers" "I", Cond.methodLink RX3 143 yX3_isDoubtful, Cond.instanceMethod yX3_isDoubtful, Cond.selects RX3 yX3_isDoubtful yX3_isDoubtful, Cond.code yX3_isDoubtful cX3_isDoubtful 3 (some .boolean), Cond.methodLink RX3 98 yX3_firstYear, Cond.instanceMethod yX3_firstYear, Cond.selects RX3 yX3_firstYear yX3_firstYear, Cond.code yX3_firstYear cX3_firstYear 3 (some .int), Cond.methodLink RX3 78 yX2_alike, Cond.instanceMethod yX2_alike]
def wsX3_blame_r2 : List Cond := [Cond.selects RX2 yX2_alike yX2_alike, Cond.code yX2_alike cX2_alike 2 (some .int), Cond.fieldLink RX2 9 "CairnShells$Strata" "alikes" "[I", Cond.methodLink RX3 61 yX2_below, Cond.instanceMethod yX2_below, Cond.selects RX2 yX2_below yX2_below, Cond.code yX2_below cX2_below 2 (some .int), Cond.fieldLink RX2 15 "CairnShells$Strata" "belows" "[I", Cond.methodLink RX3 199 yX0_greatestFirst, Cond.instanceMethod yX0_greatestFirst, Cond.selects RX0 yX0_greatestFirst yX0_greatestFirst, Cond.initialized RX0, Cond.code yX0_greatestFirst cX0_greatestFirst 4 (some .int), Cond.fieldLink RX0 9 "CairnShells$Hearths" "first" "[I", Cond.methodLink RX0 32 Lib.Math.max.name, Cond.static Lib.Math.max.name, Cond.initialized "java/lang/Math", Cond.code Lib.Math.max.name Lib.Math.max.code 2 (some .int), Cond.static yX3_has, Cond.code yX3_has cX3_has 2 (some .boolean), Cond.methodLink RX3 173 yX3_lastYear, Cond.instanceMethod yX3_lastYear, Cond.selects RX3 yX3_lastYear yX3_lastYear, Cond.code yX3_lastYear cX3_lastYear 3 (some .int)]
def wsX3_blame_r3 : List Cond := [Cond.methodLink RX3 127 yX2_onTop, Cond.instanceMethod yX2_onTop, Cond.selects RX2 yX2_onTop yX2_onTop, Cond.code yX2_onTop cX2_onTop 2 (some .int), Cond.fieldLink RX2 18 "CairnShells$Strata" "tops" "[I", Cond.methodLink RX3 202 yX0_leastLast, Cond.instanceMethod yX0_leastLast, Cond.selects RX0 yX0_leastLast yX0_leastLast, Cond.code yX0_leastLast cX0_leastLast 4 (some .int), Cond.fieldLink RX0 15 "CairnShells$Hearths" "last" "[I", Cond.methodLink RX0 38 Lib.Math.min.name, Cond.static Lib.Math.min.name, Cond.code Lib.Math.min.name Lib.Math.min.code 2 (some .int), Cond.methodLink RX3 137 yX0_copy, Cond.instanceMethod yX0_copy, Cond.selects RX0 yX0_copy yX0_copy, Cond.code yX0_copy cX0_copy 3 none, Cond.fieldLink RX0 18 "CairnShells$Hearths" "burning" "I", Cond.methodLink RX3 111 yX0_take, Cond.instanceMethod yX0_take, Cond.selects RX0 yX0_take yX0_take, Cond.code yX0_take cX0_take 2 none]
def wsX3_blame : List Cond := .code yX3_blame cX3_blame 5 (some .int) :: ((wsX3_blame_r1 ++ (wsX3_blame_r2 ++ wsX3_blame_r3)) ++ wsX30 ++ wsX20 ++ wsX00)
def wsX3_span_r1 : List Cond := [Cond.methodLink RX3 173 yX3_lastYear, Cond.instanceMethod yX3_lastYear, Cond.selects RX3 yX3_lastYear yX3_lastYear, Cond.initialized RX3, Cond.code yX3_lastYear cX3_lastYear 3 (some .int), Cond.fieldLink RX3 10 "CairnShells" "strata" "LCairnShells$Strata;", Cond.methodLink RX3 78 yX2_alike, Cond.instanceMethod yX2_alike, Cond.selects RX2 yX2_alike yX2_alike, Cond.initialized RX2, Cond.code yX2_alike cX2_alike 2 (some .int), Cond.fieldLink RX2 9 "CairnShells$Strata" "alikes" "[I", Cond.methodLink RX3 127 yX2_onTop, Cond.instanceMethod yX2_onTop, Cond.selects RX2 yX2_onTop yX2_onTop, Cond.code yX2_onTop cX2_onTop 2 (some .int), Cond.fieldLink RX2 18 "CairnShells$Strata" "tops" "[I", Cond.methodLink RX3 202 yX0_leastLast, Cond.instanceMethod yX0_leastLast, Cond.selects RX0 yX0_leastLast yX0_leastLast, Cond.initialized RX0, Cond.code yX0_leastLast cX0_leastLast 4 (some .int), Cond.fieldLink RX0 15 "CairnShells$Hearths" "last" "[I", Cond.methodLink RX0 38 Lib.Math.min.name]
def wsX3_span_r2 : List Cond := [Cond.static Lib.Math.min.name, Cond.initialized "java/lang/Math", Cond.code Lib.Math.min.name Lib.Math.min.code 2 (some .int), Cond.static yX3_has, Cond.code yX3_has cX3_has 2 (some .boolean), Cond.methodLink RX3 98 yX3_firstYear, Cond.instanceMethod yX3_firstYear, Cond.selects RX3 yX3_firstYear yX3_firstYear, Cond.code yX3_firstYear cX3_firstYear 3 (some .int), Cond.methodLink RX3 61 yX2_below, Cond.instanceMethod yX2_below, Cond.selects RX2 yX2_below yX2_below, Cond.code yX2_below cX2_below 2 (some .int), Cond.fieldLink RX2 15 "CairnShells$Strata" "belows" "[I", Cond.methodLink RX3 199 yX0_greatestFirst, Cond.instanceMethod yX0_greatestFirst, Cond.selects RX0 yX0_greatestFirst yX0_greatestFirst, Cond.code yX0_greatestFirst cX0_greatestFirst 4 (some .int), Cond.fieldLink RX0 9 "CairnShells$Hearths" "first" "[I", Cond.methodLink RX0 32 Lib.Math.max.name, Cond.static Lib.Math.max.name, Cond.code Lib.Math.max.name Lib.Math.max.code 2 (some .int)]
def wsX3_span : List Cond := .code yX3_span cX3_span 3 (some .int) :: ((wsX3_span_r1 ++ wsX3_span_r2) ++ wsX30 ++ wsX20 ++ wsX00)
def wsX3_narrows_r1 : List Cond := [Cond.classLink RX3 84 "java/lang/IllegalArgumentException", Cond.initialized "java/lang/IllegalArgumentException", Cond.fieldLink RX3 30 "CairnShells" "trial" "LCairnShells$Hearths;", Cond.fieldLink RX3 26 "CairnShells" "hearths" "LCairnShells$Hearths;", Cond.fieldLink RX3 10 "CairnShells" "strata" "LCairnShells$Strata;", Cond.methodLink RX3 47 yX3_checkLayer, Cond.instanceMethod yX3_checkLayer, Cond.selects RX3 yX3_checkLayer yX3_checkLayer, Cond.initialized RX3, Cond.code yX3_checkLayer cX3_checkLayer 2 none, Cond.methodLink RX3 33 yX2_size, Cond.instanceMethod yX2_size, Cond.selects RX2 yX2_size yX2_size, Cond.initialized RX2, Cond.code yX2_size cX2_size 1 (some .int), Cond.fieldLink RX2 27 "CairnShells$Strata" "layers" "I", Cond.methodLink RX3 114 yX3_checkIndex, Cond.static yX3_checkIndex, Cond.code yX3_checkIndex cX3_checkIndex 2 none, Cond.classLink RX3 168 "java/lang/IndexOutOfBoundsException", Cond.initialized "java/lang/IndexOutOfBoundsException", Cond.methodLink RX3 137 yX0_copy, Cond.instanceMethod yX0_copy, Cond.selects RX0 yX0_copy yX0_copy]
def wsX3_narrows_r2 : List Cond := [Cond.initialized RX0, Cond.code yX0_copy cX0_copy 3 none, Cond.fieldLink RX0 18 "CairnShells$Hearths" "burning" "I", Cond.fieldLink RX0 9 "CairnShells$Hearths" "first" "[I", Cond.fieldLink RX0 15 "CairnShells$Hearths" "last" "[I", Cond.methodLink RX3 95 yX0_put, Cond.instanceMethod yX0_put, Cond.selects RX0 yX0_put yX0_put, Cond.code yX0_put cX0_put 4 none, Cond.methodLink RX3 143 yX3_isDoubtful, Cond.instanceMethod yX3_isDoubtful, Cond.selects RX3 yX3_isDoubtful yX3_isDoubtful, Cond.code yX3_isDoubtful cX3_isDoubtful 3 (some .boolean), Cond.methodLink RX3 98 yX3_firstYear, Cond.instanceMethod yX3_firstYear, Cond.selects RX3 yX3_firstYear yX3_firstYear, Cond.code yX3_firstYear cX3_firstYear 3 (some .int), Cond.methodLink RX3 78 yX2_alike, Cond.instanceMethod yX2_alike, Cond.selects RX2 yX2_alike yX2_alike, Cond.code yX2_alike cX2_alike 2 (some .int), Cond.fieldLink RX2 9 "CairnShells$Strata" "alikes" "[I", Cond.methodLink RX3 61 yX2_below, Cond.instanceMethod yX2_below]
def wsX3_narrows_r3 : List Cond := [Cond.selects RX2 yX2_below yX2_below, Cond.code yX2_below cX2_below 2 (some .int), Cond.fieldLink RX2 15 "CairnShells$Strata" "belows" "[I", Cond.methodLink RX3 199 yX0_greatestFirst, Cond.instanceMethod yX0_greatestFirst, Cond.selects RX0 yX0_greatestFirst yX0_greatestFirst, Cond.code yX0_greatestFirst cX0_greatestFirst 4 (some .int), Cond.methodLink RX0 32 Lib.Math.max.name, Cond.static Lib.Math.max.name, Cond.initialized "java/lang/Math", Cond.code Lib.Math.max.name Lib.Math.max.code 2 (some .int), Cond.static yX3_has, Cond.code yX3_has cX3_has 2 (some .boolean), Cond.methodLink RX3 173 yX3_lastYear, Cond.instanceMethod yX3_lastYear, Cond.selects RX3 yX3_lastYear yX3_lastYear, Cond.code yX3_lastYear cX3_lastYear 3 (some .int), Cond.methodLink RX3 127 yX2_onTop, Cond.instanceMethod yX2_onTop, Cond.selects RX2 yX2_onTop yX2_onTop, Cond.code yX2_onTop cX2_onTop 2 (some .int), Cond.fieldLink RX2 18 "CairnShells$Strata" "tops" "[I", Cond.methodLink RX3 202 yX0_leastLast, Cond.instanceMethod yX0_leastLast]
def wsX3_narrows_r4 : List Cond := [Cond.selects RX0 yX0_leastLast yX0_leastLast, Cond.code yX0_leastLast cX0_leastLast 4 (some .int), Cond.methodLink RX0 38 Lib.Math.min.name, Cond.static Lib.Math.min.name, Cond.code Lib.Math.min.name Lib.Math.min.code 2 (some .int), Cond.methodLink RX3 147 yX3_span, Cond.instanceMethod yX3_span, Cond.selects RX3 yX3_span yX3_span, Cond.code yX3_span cX3_span 3 (some .int)]
def wsX3_narrows : List Cond := .code yX3_narrows cX3_narrows 5 (some .int) :: ((wsX3_narrows_r1 ++ (wsX3_narrows_r2 ++ (wsX3_narrows_r3 ++ wsX3_narrows_r4))) ++ wsX30 ++ wsX20 ++ wsX00 ++ (vx_atS RX3 88 "java/lang/IllegalArgumentException" ["java/lang/RuntimeException", "java/lang/Exception"]).filter goodWord ++ (vx_atS RX3 172 "java/lang/IndexOutOfBoundsException" ["java/lang/RuntimeException", "java/lang/Exception"]).filter goodWord)
def wsX3_tells_r1 : List Cond := [Cond.fieldLink RX3 10 "CairnShells" "strata" "LCairnShells$Strata;", Cond.methodLink RX3 47 yX3_checkLayer, Cond.instanceMethod yX3_checkLayer, Cond.selects RX3 yX3_checkLayer yX3_checkLayer, Cond.initialized RX3, Cond.code yX3_checkLayer cX3_checkLayer 2 none, Cond.methodLink RX3 33 yX2_size, Cond.instanceMethod yX2_size, Cond.selects RX2 yX2_size yX2_size, Cond.initialized RX2, Cond.code yX2_size cX2_size 1 (some .int), Cond.fieldLink RX2 27 "CairnShells$Strata" "layers" "I", Cond.methodLink RX3 114 yX3_checkIndex, Cond.static yX3_checkIndex, Cond.code yX3_checkIndex cX3_checkIndex 2 none, Cond.classLink RX3 168 "java/lang/IndexOutOfBoundsException", Cond.initialized "java/lang/IndexOutOfBoundsException", Cond.methodLink RX3 51 yX2_refusesAbove, Cond.instanceMethod yX2_refusesAbove, Cond.selects RX2 yX2_refusesAbove yX2_refusesAbove, Cond.code yX2_refusesAbove cX2_refusesAbove 3 (some .boolean), Cond.fieldLink RX2 9 "CairnShells$Strata" "alikes" "[I", Cond.static yX3_has, Cond.code yX3_has cX3_has 2 (some .boolean)]
def wsX3_tells_r2 : List Cond := [Cond.methodLink RX2 35 yX2_isLater, Cond.instanceMethod yX2_isLater, Cond.selects RX2 yX2_isLater yX2_isLater, Cond.code yX2_isLater cX2_isLater 3 (some .boolean), Cond.fieldLink RX2 15 "CairnShells$Strata" "belows" "[I", Cond.methodLink RX3 150 yX2_pairsMore, Cond.instanceMethod yX2_pairsMore, Cond.selects RX2 yX2_pairsMore yX2_pairsMore, Cond.code yX2_pairsMore cX2_pairsMore 7 (some .int), Cond.fieldLink RX2 18 "CairnShells$Strata" "tops" "[I", Cond.methodLink RX2 58 yJ6_bitCount_0f7a4, Cond.static yJ6_bitCount_0f7a4, Cond.initialized RJ6, Cond.code yJ6_bitCount_0f7a4 cJ6_bitCount_0f7a4 1 (some .int), Cond.constant RJ6 265 (1431655765), Cond.constant RJ6 266 (858993459), Cond.constant RJ6 267 (252645135)]
def wsX3_tells : List Cond := .code yX3_tells cX3_tells 3 (some .int) :: ((wsX3_tells_r1 ++ wsX3_tells_r2) ++ wsX30 ++ wsX20 ++ (vx_atS RX3 172 "java/lang/IndexOutOfBoundsException" ["java/lang/RuntimeException", "java/lang/Exception"]).filter goodWord)
def wsX3_mean : List Cond := .code yX3_mean cX3_mean 4 (some .double) :: ([.fieldLink RX3 10 "CairnShells" "strata" "LCairnShells$Strata;", .methodLink RX3 33 yX2_size, .instanceMethod yX2_size, .selects RX2 yX2_size yX2_size, .initialized RX2, .code yX2_size cX2_size 1 (some .int), .fieldLink RX2 27 "CairnShells$Strata" "layers" "I", .methodLink RX3 153 yX2_phase, .instanceMethod yX2_phase, .selects RX2 yX2_phase yX2_phase, .code yX2_phase cX2_phase 2 (some .int), .fieldLink RX2 24 "CairnShells$Strata" "phaseOf" "[I"] ++ wsX30 ++ wsX20)
def wsX3_mixed : List Cond := .code yX3_mixed cX3_mixed 4 (some .long) :: ([.constantLong RX3 166 (31)])
def wsX3_mixedLayer_r1 : List Cond := [Cond.fieldLink RX3 10 "CairnShells" "strata" "LCairnShells$Strata;", Cond.methodLink RX3 117 yX3_toldOf, Cond.instanceMethod yX3_toldOf, Cond.selects RX3 yX3_toldOf yX3_toldOf, Cond.initialized RX3, Cond.code yX3_toldOf cX3_toldOf 3 (some .int), Cond.fieldLink RX3 26 "CairnShells" "hearths" "LCairnShells$Hearths;", Cond.methodLink RX3 98 yX3_firstYear, Cond.instanceMethod yX3_firstYear, Cond.selects RX3 yX3_firstYear yX3_firstYear, Cond.code yX3_firstYear cX3_firstYear 3 (some .int), Cond.methodLink RX3 78 yX2_alike, Cond.instanceMethod yX2_alike, Cond.selects RX2 yX2_alike yX2_alike, Cond.initialized RX2, Cond.code yX2_alike cX2_alike 2 (some .int), Cond.fieldLink RX2 9 "CairnShells$Strata" "alikes" "[I", Cond.methodLink RX3 61 yX2_below, Cond.instanceMethod yX2_below, Cond.selects RX2 yX2_below yX2_below, Cond.code yX2_below cX2_below 2 (some .int), Cond.fieldLink RX2 15 "CairnShells$Strata" "belows" "[I", Cond.methodLink RX3 199 yX0_greatestFirst, Cond.instanceMethod yX0_greatestFirst]
def wsX3_mixedLayer_r2 : List Cond := [Cond.selects RX0 yX0_greatestFirst yX0_greatestFirst, Cond.initialized RX0, Cond.code yX0_greatestFirst cX0_greatestFirst 4 (some .int), Cond.fieldLink RX0 9 "CairnShells$Hearths" "first" "[I", Cond.methodLink RX0 32 Lib.Math.max.name, Cond.static Lib.Math.max.name, Cond.initialized "java/lang/Math", Cond.code Lib.Math.max.name Lib.Math.max.code 2 (some .int), Cond.static yX3_has, Cond.code yX3_has cX3_has 2 (some .boolean), Cond.methodLink RX3 173 yX3_lastYear, Cond.instanceMethod yX3_lastYear, Cond.selects RX3 yX3_lastYear yX3_lastYear, Cond.code yX3_lastYear cX3_lastYear 3 (some .int), Cond.methodLink RX3 127 yX2_onTop, Cond.instanceMethod yX2_onTop, Cond.selects RX2 yX2_onTop yX2_onTop, Cond.code yX2_onTop cX2_onTop 2 (some .int), Cond.fieldLink RX2 18 "CairnShells$Strata" "tops" "[I", Cond.methodLink RX3 202 yX0_leastLast, Cond.instanceMethod yX0_leastLast, Cond.selects RX0 yX0_leastLast yX0_leastLast, Cond.code yX0_leastLast cX0_leastLast 4 (some .int), Cond.fieldLink RX0 15 "CairnShells$Hearths" "last" "[I"]
def wsX3_mixedLayer_r3 : List Cond := [Cond.methodLink RX0 38 Lib.Math.min.name, Cond.static Lib.Math.min.name, Cond.code Lib.Math.min.name Lib.Math.min.code 2 (some .int), Cond.methodLink RX3 143 yX3_isDoubtful, Cond.instanceMethod yX3_isDoubtful, Cond.selects RX3 yX3_isDoubtful yX3_isDoubtful, Cond.code yX3_isDoubtful cX3_isDoubtful 3 (some .boolean), Cond.methodLink RX3 153 yX2_phase, Cond.instanceMethod yX2_phase, Cond.selects RX2 yX2_phase yX2_phase, Cond.code yX2_phase cX2_phase 2 (some .int), Cond.fieldLink RX2 24 "CairnShells$Strata" "phaseOf" "[I", Cond.methodLink RX3 65 yJ6_bitCount_0f7a4, Cond.static yJ6_bitCount_0f7a4, Cond.initialized RJ6, Cond.code yJ6_bitCount_0f7a4 cJ6_bitCount_0f7a4 1 (some .int), Cond.constant RJ6 265 (1431655765), Cond.constant RJ6 266 (858993459), Cond.constant RJ6 267 (252645135), Cond.methodLink RX3 176 yX3_season, Cond.instanceMethod yX3_season, Cond.selects RX3 yX3_season yX3_season, Cond.code yX3_season cX3_season 10 (some .int), Cond.methodLink RX3 121 yX3_findsOf]
def wsX3_mixedLayer_r4 : List Cond := [Cond.instanceMethod yX3_findsOf, Cond.selects RX3 yX3_findsOf yX3_findsOf, Cond.code yX3_findsOf cX3_findsOf 3 (some .int), Cond.fieldLink RX3 19 "CairnShells" "sieve" "LCairnShells$Sieve;", Cond.methodLink RX3 192 yX1_sum, Cond.instanceMethod yX1_sum, Cond.selects RX1 yX1_sum yX1_sum, Cond.initialized RX1, Cond.code yX1_sum cX1_sum 5 (some .int), Cond.fieldLink RX1 9 "CairnShells$Sieve" "many" "[I", Cond.methodLink RX3 195 yX3_weight, Cond.static yX3_weight, Cond.code yX3_weight cX3_weight 5 (some .int), Cond.methodLink RX3 102 yX0_isAt, Cond.instanceMethod yX0_isAt, Cond.selects RX0 yX0_isAt yX0_isAt, Cond.code yX0_isAt cX0_isAt 2 (some .boolean), Cond.fieldLink RX0 18 "CairnShells$Hearths" "burning" "I", Cond.methodLink RX3 158 yX3_mixed, Cond.static yX3_mixed, Cond.code yX3_mixed cX3_mixed 4 (some .long), Cond.constantLong RX3 166 (31)]
def wsX3_mixedLayer : List Cond := .code yX3_mixedLayer cX3_mixedLayer 7 (some .long) :: ((wsX3_mixedLayer_r1 ++ (wsX3_mixedLayer_r2 ++ (wsX3_mixedLayer_r3 ++ wsX3_mixedLayer_r4))) ++ wsX30 ++ wsX20 ++ wsX00 ++ wsX10)
def wsX3_digest_r1 : List Cond := [Cond.constantLong RX3 156 (1361), Cond.fieldLink RX3 10 "CairnShells" "strata" "LCairnShells$Strata;", Cond.methodLink RX3 130 yX3_counted, Cond.instanceMethod yX3_counted, Cond.selects RX3 yX3_counted yX3_counted, Cond.initialized RX3, Cond.code yX3_counted cX3_counted 2 (some .int), Cond.fieldLink RX3 26 "CairnShells" "hearths" "LCairnShells$Hearths;", Cond.fieldLink RX3 19 "CairnShells" "sieve" "LCairnShells$Sieve;", Cond.methodLink RX3 33 yX2_size, Cond.instanceMethod yX2_size, Cond.selects RX2 yX2_size yX2_size, Cond.initialized RX2, Cond.code yX2_size cX2_size 1 (some .int), Cond.fieldLink RX2 27 "CairnShells$Strata" "layers" "I", Cond.methodLink RX3 179 yX2_phases, Cond.instanceMethod yX2_phases, Cond.selects RX2 yX2_phases yX2_phases, Cond.code yX2_phases cX2_phases 3 (some .int), Cond.fieldLink RX2 24 "CairnShells$Strata" "phaseOf" "[I", Cond.methodLink RX2 52 Lib.Math.max.name, Cond.static Lib.Math.max.name, Cond.initialized "java/lang/Math", Cond.code Lib.Math.max.name Lib.Math.max.code 2 (some .int)]
def wsX3_digest_r2 : List Cond := [Cond.methodLink RX3 133 yX3_doubtfulLayers, Cond.instanceMethod yX3_doubtfulLayers, Cond.selects RX3 yX3_doubtfulLayers yX3_doubtfulLayers, Cond.code yX3_doubtfulLayers cX3_doubtfulLayers 4 (some .int), Cond.methodLink RX3 143 yX3_isDoubtful, Cond.instanceMethod yX3_isDoubtful, Cond.selects RX3 yX3_isDoubtful yX3_isDoubtful, Cond.code yX3_isDoubtful cX3_isDoubtful 3 (some .boolean), Cond.methodLink RX3 98 yX3_firstYear, Cond.instanceMethod yX3_firstYear, Cond.selects RX3 yX3_firstYear yX3_firstYear, Cond.code yX3_firstYear cX3_firstYear 3 (some .int), Cond.methodLink RX3 78 yX2_alike, Cond.instanceMethod yX2_alike, Cond.selects RX2 yX2_alike yX2_alike, Cond.code yX2_alike cX2_alike 2 (some .int), Cond.fieldLink RX2 9 "CairnShells$Strata" "alikes" "[I", Cond.methodLink RX3 61 yX2_below, Cond.instanceMethod yX2_below, Cond.selects RX2 yX2_below yX2_below, Cond.code yX2_below cX2_below 2 (some .int), Cond.fieldLink RX2 15 "CairnShells$Strata" "belows" "[I", Cond.methodLink RX3 199 yX0_greatestFirst, Cond.instanceMethod yX0_greatestFirst]
def wsX3_digest_r3 : List Cond := [Cond.selects RX0 yX0_greatestFirst yX0_greatestFirst, Cond.initialized RX0, Cond.code yX0_greatestFirst cX0_greatestFirst 4 (some .int), Cond.fieldLink RX0 9 "CairnShells$Hearths" "first" "[I", Cond.methodLink RX0 32 Lib.Math.max.name, Cond.static yX3_has, Cond.code yX3_has cX3_has 2 (some .boolean), Cond.methodLink RX3 173 yX3_lastYear, Cond.instanceMethod yX3_lastYear, Cond.selects RX3 yX3_lastYear yX3_lastYear, Cond.code yX3_lastYear cX3_lastYear 3 (some .int), Cond.methodLink RX3 127 yX2_onTop, Cond.instanceMethod yX2_onTop, Cond.selects RX2 yX2_onTop yX2_onTop, Cond.code yX2_onTop cX2_onTop 2 (some .int), Cond.fieldLink RX2 18 "CairnShells$Strata" "tops" "[I", Cond.methodLink RX3 202 yX0_leastLast, Cond.instanceMethod yX0_leastLast, Cond.selects RX0 yX0_leastLast yX0_leastLast, Cond.code yX0_leastLast cX0_leastLast 4 (some .int), Cond.fieldLink RX0 15 "CairnShells$Hearths" "last" "[I", Cond.methodLink RX0 38 Lib.Math.min.name, Cond.static Lib.Math.min.name, Cond.code Lib.Math.min.name Lib.Math.min.code 2 (some .int)]
def wsX3_digest_r4 : List Cond := [Cond.methodLink RX3 182 yX0_size, Cond.instanceMethod yX0_size, Cond.selects RX0 yX0_size yX0_size, Cond.code yX0_size cX0_size 1 (some .int), Cond.fieldLink RX0 18 "CairnShells$Hearths" "burning" "I", Cond.methodLink RX0 22 yJ6_bitCount_0f7a4, Cond.static yJ6_bitCount_0f7a4, Cond.initialized RJ6, Cond.code yJ6_bitCount_0f7a4 cJ6_bitCount_0f7a4 1 (some .int), Cond.constant RJ6 265 (1431655765), Cond.constant RJ6 266 (858993459), Cond.constant RJ6 267 (252645135), Cond.methodLink RX3 183 yX2_pairs, Cond.instanceMethod yX2_pairs, Cond.selects RX2 yX2_pairs yX2_pairs, Cond.code yX2_pairs cX2_pairs 3 (some .int), Cond.methodLink RX2 58 yJ6_bitCount_0f7a4, Cond.methodLink RX3 186 yX2_sorts, Cond.instanceMethod yX2_sorts, Cond.selects RX2 yX2_sorts yX2_sorts, Cond.code yX2_sorts cX2_sorts 3 (some .int), Cond.methodLink RX3 189 yX1_all, Cond.instanceMethod yX1_all, Cond.selects RX1 yX1_all yX1_all]
def wsX3_digest_r5 : List Cond := [Cond.initialized RX1, Cond.code yX1_all cX1_all 3 (some .int), Cond.fieldLink RX1 9 "CairnShells$Sieve" "many" "[I", Cond.methodLink RX3 158 yX3_mixed, Cond.static yX3_mixed, Cond.code yX3_mixed cX3_mixed 4 (some .long), Cond.constantLong RX3 166 (31), Cond.methodLink RX3 124 yX2_placed, Cond.instanceMethod yX2_placed, Cond.selects RX2 yX2_placed yX2_placed, Cond.code yX2_placed cX2_placed 2 (some .int), Cond.fieldLink RX2 21 "CairnShells$Strata" "order" "[I", Cond.methodLink RX3 162 yX3_mixedLayer, Cond.instanceMethod yX3_mixedLayer, Cond.selects RX3 yX3_mixedLayer yX3_mixedLayer, Cond.code yX3_mixedLayer cX3_mixedLayer 7 (some .long), Cond.methodLink RX3 117 yX3_toldOf, Cond.instanceMethod yX3_toldOf, Cond.selects RX3 yX3_toldOf yX3_toldOf, Cond.code yX3_toldOf cX3_toldOf 3 (some .int), Cond.methodLink RX3 153 yX2_phase, Cond.instanceMethod yX2_phase, Cond.selects RX2 yX2_phase yX2_phase, Cond.code yX2_phase cX2_phase 2 (some .int)]
def wsX3_digest_r6 : List Cond := [Cond.methodLink RX3 65 yJ6_bitCount_0f7a4, Cond.methodLink RX3 176 yX3_season, Cond.instanceMethod yX3_season, Cond.selects RX3 yX3_season yX3_season, Cond.code yX3_season cX3_season 10 (some .int), Cond.methodLink RX3 121 yX3_findsOf, Cond.instanceMethod yX3_findsOf, Cond.selects RX3 yX3_findsOf yX3_findsOf, Cond.code yX3_findsOf cX3_findsOf 3 (some .int), Cond.methodLink RX3 192 yX1_sum, Cond.instanceMethod yX1_sum, Cond.selects RX1 yX1_sum yX1_sum, Cond.code yX1_sum cX1_sum 5 (some .int), Cond.methodLink RX3 195 yX3_weight, Cond.static yX3_weight, Cond.code yX3_weight cX3_weight 5 (some .int), Cond.methodLink RX3 102 yX0_isAt, Cond.instanceMethod yX0_isAt, Cond.selects RX0 yX0_isAt yX0_isAt, Cond.code yX0_isAt cX0_isAt 2 (some .boolean)]
def wsX3_digest : List Cond := .code yX3_digest cX3_digest 4 (some .long) :: ((wsX3_digest_r1 ++ (wsX3_digest_r2 ++ (wsX3_digest_r3 ++ (wsX3_digest_r4 ++ (wsX3_digest_r5 ++ wsX3_digest_r6))))) ++ wsX30 ++ wsX20 ++ wsX00 ++ wsX10)
def wsX4_init : List Cond := .code yX4_init cX4_init 1 none :: ([.methodLink RX4 1 objectInit, .instanceMethod objectInit, .code objectInit ⟨#[0xb1]⟩ 1 none, .arrayClass .int, .fieldLink RX4 9 "CairnShellsModel" "alike" "[I", .fieldLink RX4 13 "CairnShellsModel" "beneath" "[I", .fieldLink RX4 16 "CairnShellsModel" "sifted" "[I", .fieldLink RX4 19 "CairnShellsModel" "froms" "[I", .fieldLink RX4 22 "CairnShellsModel" "tos" "[I"] ++ wsX40)
def wsX4_thrown : List Cond := .code yX4_thrown cX4_thrown 1 (some .int) :: ([.fieldLink RX4 25 "CairnShellsModel" "thrown" "I"] ++ wsX40)
def wsX4_fail : List Cond := .code yX4_fail cX4_fail 2 (some .int) :: ([.fieldLink RX4 25 "CairnShellsModel" "thrown" "I"] ++ wsX40)
def wsX4_isIn : List Cond := .code yX4_isIn cX4_isIn 3 (some .boolean) :: ([])
def wsX4_isLayer : List Cond := .code yX4_isLayer cX4_isLayer 2 (some .boolean) :: ([.fieldLink RX4 29 "CairnShellsModel" "layers" "I", .methodLink RX4 32 yX4_isIn, .static yX4_isIn, .initialized RX4, .code yX4_isIn cX4_isIn 3 (some .boolean)] ++ wsX40)
def wsX4_has : List Cond := .code yX4_has cX4_has 2 (some .boolean) :: ([])
def wsX4_size : List Cond := .code yX4_size cX4_size 3 (some .int) :: ([])
def wsX4_find : List Cond := .code yX4_find cX4_find 1 (some .int) :: ([.fieldLink RX4 25 "CairnShellsModel" "thrown" "I", .fieldLink RX4 29 "CairnShellsModel" "layers" "I", .fieldLink RX4 9 "CairnShellsModel" "alike" "[I", .fieldLink RX4 19 "CairnShellsModel" "froms" "[I", .methodLink RX4 36 yX4_fail, .instanceMethod yX4_fail, .selects RX4 yX4_fail yX4_fail, .initialized RX4, .code yX4_fail cX4_fail 2 (some .int)] ++ wsX40)
def wsX4_andAbove : List Cond := .code yX4_andAbove cX4_andAbove 4 (some .int) :: ([.fieldLink RX4 29 "CairnShellsModel" "layers" "I", .fieldLink RX4 13 "CairnShellsModel" "beneath" "[I"] ++ wsX40)
def wsX4_andBeneath : List Cond := .code yX4_andBeneath cX4_andBeneath 4 (some .int) :: ([.fieldLink RX4 29 "CairnShellsModel" "layers" "I", .fieldLink RX4 13 "CairnShellsModel" "beneath" "[I", .methodLink RX4 40 yX4_has, .static yX4_has, .initialized RX4, .code yX4_has cX4_has 2 (some .boolean)] ++ wsX40)
def wsX4_isRefused : List Cond := .code yX4_isRefused cX4_isRefused 3 (some .boolean) :: ([.fieldLink RX4 9 "CairnShellsModel" "alike" "[I", .fieldLink RX4 13 "CairnShellsModel" "beneath" "[I", .methodLink RX4 40 yX4_has, .static yX4_has, .initialized RX4, .code yX4_has cX4_has 2 (some .boolean)] ++ wsX40)
def wsX4_lay : List Cond := .code yX4_lay cX4_lay 4 none :: ([.fieldLink RX4 29 "CairnShellsModel" "layers" "I", .fieldLink RX4 13 "CairnShellsModel" "beneath" "[I", .methodLink RX4 40 yX4_has, .static yX4_has, .initialized RX4, .code yX4_has cX4_has 2 (some .boolean)] ++ wsX40)
def wsX4_above_r1 : List Cond := [Cond.fieldLink RX4 25 "CairnShellsModel" "thrown" "I", Cond.fieldLink RX4 9 "CairnShellsModel" "alike" "[I", Cond.fieldLink RX4 13 "CairnShellsModel" "beneath" "[I", Cond.methodLink RX4 44 yX4_isLayer, Cond.instanceMethod yX4_isLayer, Cond.selects RX4 yX4_isLayer yX4_isLayer, Cond.initialized RX4, Cond.code yX4_isLayer cX4_isLayer 2 (some .boolean), Cond.fieldLink RX4 29 "CairnShellsModel" "layers" "I", Cond.methodLink RX4 32 yX4_isIn, Cond.static yX4_isIn, Cond.code yX4_isIn cX4_isIn 3 (some .boolean), Cond.methodLink RX4 36 yX4_fail, Cond.instanceMethod yX4_fail, Cond.selects RX4 yX4_fail yX4_fail, Cond.code yX4_fail cX4_fail 2 (some .int), Cond.methodLink RX4 48 yX4_isRefused, Cond.instanceMethod yX4_isRefused, Cond.selects RX4 yX4_isRefused yX4_isRefused, Cond.code yX4_isRefused cX4_isRefused 3 (some .boolean), Cond.methodLink RX4 40 yX4_has, Cond.static yX4_has, Cond.code yX4_has cX4_has 2 (some .boolean), Cond.methodLink RX4 51 yX4_andAbove]
def wsX4_above_r2 : List Cond := [Cond.instanceMethod yX4_andAbove, Cond.selects RX4 yX4_andAbove yX4_andAbove, Cond.code yX4_andAbove cX4_andAbove 4 (some .int), Cond.methodLink RX4 54 yX4_andBeneath, Cond.instanceMethod yX4_andBeneath, Cond.selects RX4 yX4_andBeneath yX4_andBeneath, Cond.code yX4_andBeneath cX4_andBeneath 4 (some .int), Cond.methodLink RX4 57 yX4_lay, Cond.instanceMethod yX4_lay, Cond.selects RX4 yX4_lay yX4_lay, Cond.code yX4_lay cX4_lay 4 none, Cond.methodLink RX4 61 yX4_size, Cond.static yX4_size, Cond.code yX4_size cX4_size 3 (some .int)]
def wsX4_above : List Cond := .code yX4_above cX4_above 3 (some .int) :: ((wsX4_above_r1 ++ wsX4_above_r2) ++ wsX40)
def wsX4_same_r1 : List Cond := [Cond.fieldLink RX4 25 "CairnShellsModel" "thrown" "I", Cond.fieldLink RX4 13 "CairnShellsModel" "beneath" "[I", Cond.fieldLink RX4 9 "CairnShellsModel" "alike" "[I", Cond.fieldLink RX4 29 "CairnShellsModel" "layers" "I", Cond.methodLink RX4 44 yX4_isLayer, Cond.instanceMethod yX4_isLayer, Cond.selects RX4 yX4_isLayer yX4_isLayer, Cond.initialized RX4, Cond.code yX4_isLayer cX4_isLayer 2 (some .boolean), Cond.methodLink RX4 32 yX4_isIn, Cond.static yX4_isIn, Cond.code yX4_isIn cX4_isIn 3 (some .boolean), Cond.methodLink RX4 36 yX4_fail, Cond.instanceMethod yX4_fail, Cond.selects RX4 yX4_fail yX4_fail, Cond.code yX4_fail cX4_fail 2 (some .int), Cond.methodLink RX4 40 yX4_has, Cond.static yX4_has, Cond.code yX4_has cX4_has 2 (some .boolean), Cond.methodLink RX4 51 yX4_andAbove, Cond.instanceMethod yX4_andAbove, Cond.selects RX4 yX4_andAbove yX4_andAbove, Cond.code yX4_andAbove cX4_andAbove 4 (some .int), Cond.methodLink RX4 54 yX4_andBeneath]
def wsX4_same_r2 : List Cond := [Cond.instanceMethod yX4_andBeneath, Cond.selects RX4 yX4_andBeneath yX4_andBeneath, Cond.code yX4_andBeneath cX4_andBeneath 4 (some .int), Cond.methodLink RX4 57 yX4_lay, Cond.instanceMethod yX4_lay, Cond.selects RX4 yX4_lay yX4_lay, Cond.code yX4_lay cX4_lay 4 none, Cond.methodLink RX4 61 yX4_size, Cond.static yX4_size, Cond.code yX4_size cX4_size 3 (some .int)]
def wsX4_same : List Cond := .code yX4_same cX4_same 7 (some .int) :: ((wsX4_same_r1 ++ wsX4_same_r2) ++ wsX40)
def wsX4_sift : List Cond := .code yX4_sift cX4_sift 5 (some .int) :: ([.fieldLink RX4 25 "CairnShellsModel" "thrown" "I", .fieldLink RX4 16 "CairnShellsModel" "sifted" "[I", .methodLink RX4 44 yX4_isLayer, .instanceMethod yX4_isLayer, .selects RX4 yX4_isLayer yX4_isLayer, .initialized RX4, .code yX4_isLayer cX4_isLayer 2 (some .boolean), .fieldLink RX4 29 "CairnShellsModel" "layers" "I", .methodLink RX4 32 yX4_isIn, .static yX4_isIn, .code yX4_isIn cX4_isIn 3 (some .boolean), .methodLink RX4 36 yX4_fail, .instanceMethod yX4_fail, .selects RX4 yX4_fail yX4_fail, .code yX4_fail cX4_fail 2 (some .int)] ++ wsX40)
def wsX4_isDated : List Cond := .code yX4_isDated cX4_isDated 2 (some .boolean) :: ([.fieldLink RX4 19 "CairnShellsModel" "froms" "[I"] ++ wsX40)
def wsX4_from : List Cond := .code yX4_from cX4_from 4 (some .int) :: ([.fieldLink RX4 29 "CairnShellsModel" "layers" "I", .fieldLink RX4 9 "CairnShellsModel" "alike" "[I", .fieldLink RX4 13 "CairnShellsModel" "beneath" "[I", .fieldLink RX4 19 "CairnShellsModel" "froms" "[I", .methodLink RX4 67 Lib.Math.max.name, .static Lib.Math.max.name, .initialized "java/lang/Math", .code Lib.Math.max.name Lib.Math.max.code 2 (some .int), .methodLink RX4 64 yX4_isDated, .instanceMethod yX4_isDated, .selects RX4 yX4_isDated yX4_isDated, .initialized RX4, .code yX4_isDated cX4_isDated 2 (some .boolean), .methodLink RX4 40 yX4_has, .static yX4_has, .code yX4_has cX4_has 2 (some .boolean)] ++ wsX40)
def wsX4_to : List Cond := .code yX4_to cX4_to 4 (some .int) :: ([.fieldLink RX4 29 "CairnShellsModel" "layers" "I", .fieldLink RX4 9 "CairnShellsModel" "alike" "[I", .fieldLink RX4 13 "CairnShellsModel" "beneath" "[I", .fieldLink RX4 22 "CairnShellsModel" "tos" "[I", .methodLink RX4 73 Lib.Math.min.name, .static Lib.Math.min.name, .initialized "java/lang/Math", .code Lib.Math.min.name Lib.Math.min.code 2 (some .int), .methodLink RX4 64 yX4_isDated, .instanceMethod yX4_isDated, .selects RX4 yX4_isDated yX4_isDated, .initialized RX4, .code yX4_isDated cX4_isDated 2 (some .boolean), .fieldLink RX4 19 "CairnShellsModel" "froms" "[I", .methodLink RX4 40 yX4_has, .static yX4_has, .code yX4_has cX4_has 2 (some .boolean)] ++ wsX40)
def wsX4_isDoubtful_r1 : List Cond := [Cond.methodLink RX4 76 yX4_from, Cond.instanceMethod yX4_from, Cond.selects RX4 yX4_from yX4_from, Cond.initialized RX4, Cond.code yX4_from cX4_from 4 (some .int), Cond.fieldLink RX4 29 "CairnShellsModel" "layers" "I", Cond.fieldLink RX4 9 "CairnShellsModel" "alike" "[I", Cond.fieldLink RX4 13 "CairnShellsModel" "beneath" "[I", Cond.fieldLink RX4 19 "CairnShellsModel" "froms" "[I", Cond.methodLink RX4 67 Lib.Math.max.name, Cond.static Lib.Math.max.name, Cond.initialized "java/lang/Math", Cond.code Lib.Math.max.name Lib.Math.max.code 2 (some .int), Cond.methodLink RX4 64 yX4_isDated, Cond.instanceMethod yX4_isDated, Cond.selects RX4 yX4_isDated yX4_isDated, Cond.code yX4_isDated cX4_isDated 2 (some .boolean), Cond.methodLink RX4 40 yX4_has, Cond.static yX4_has, Cond.code yX4_has cX4_has 2 (some .boolean), Cond.methodLink RX4 79 yX4_to, Cond.instanceMethod yX4_to, Cond.selects RX4 yX4_to yX4_to, Cond.code yX4_to cX4_to 4 (some .int)]
def wsX4_isDoubtful_r2 : List Cond := [Cond.fieldLink RX4 22 "CairnShellsModel" "tos" "[I", Cond.methodLink RX4 73 Lib.Math.min.name, Cond.static Lib.Math.min.name, Cond.code Lib.Math.min.name Lib.Math.min.code 2 (some .int)]
def wsX4_isDoubtful : List Cond := .code yX4_isDoubtful cX4_isDoubtful 2 (some .boolean) :: ((wsX4_isDoubtful_r1 ++ wsX4_isDoubtful_r2) ++ wsX40)
def wsX4_hearth_r1 : List Cond := [Cond.fieldLink RX4 25 "CairnShellsModel" "thrown" "I", Cond.fieldLink RX4 19 "CairnShellsModel" "froms" "[I", Cond.fieldLink RX4 22 "CairnShellsModel" "tos" "[I", Cond.methodLink RX4 44 yX4_isLayer, Cond.instanceMethod yX4_isLayer, Cond.selects RX4 yX4_isLayer yX4_isLayer, Cond.initialized RX4, Cond.code yX4_isLayer cX4_isLayer 2 (some .boolean), Cond.fieldLink RX4 29 "CairnShellsModel" "layers" "I", Cond.methodLink RX4 32 yX4_isIn, Cond.static yX4_isIn, Cond.code yX4_isIn cX4_isIn 3 (some .boolean), Cond.methodLink RX4 36 yX4_fail, Cond.instanceMethod yX4_fail, Cond.selects RX4 yX4_fail yX4_fail, Cond.code yX4_fail cX4_fail 2 (some .int), Cond.methodLink RX4 76 yX4_from, Cond.instanceMethod yX4_from, Cond.selects RX4 yX4_from yX4_from, Cond.code yX4_from cX4_from 4 (some .int), Cond.fieldLink RX4 9 "CairnShellsModel" "alike" "[I", Cond.fieldLink RX4 13 "CairnShellsModel" "beneath" "[I", Cond.methodLink RX4 67 Lib.Math.max.name, Cond.static Lib.Math.max.name]
def wsX4_hearth_r2 : List Cond := [Cond.initialized "java/lang/Math", Cond.code Lib.Math.max.name Lib.Math.max.code 2 (some .int), Cond.methodLink RX4 64 yX4_isDated, Cond.instanceMethod yX4_isDated, Cond.selects RX4 yX4_isDated yX4_isDated, Cond.code yX4_isDated cX4_isDated 2 (some .boolean), Cond.methodLink RX4 40 yX4_has, Cond.static yX4_has, Cond.code yX4_has cX4_has 2 (some .boolean)]
def wsX4_hearth : List Cond := .code yX4_hearth cX4_hearth 4 (some .int) :: ((wsX4_hearth_r1 ++ wsX4_hearth_r2) ++ wsX40)
def wsX4_clear : List Cond := .code yX4_clear cX4_clear 3 (some .int) :: ([.fieldLink RX4 25 "CairnShellsModel" "thrown" "I", .fieldLink RX4 19 "CairnShellsModel" "froms" "[I", .methodLink RX4 44 yX4_isLayer, .instanceMethod yX4_isLayer, .selects RX4 yX4_isLayer yX4_isLayer, .initialized RX4, .code yX4_isLayer cX4_isLayer 2 (some .boolean), .fieldLink RX4 29 "CairnShellsModel" "layers" "I", .methodLink RX4 32 yX4_isIn, .static yX4_isIn, .code yX4_isIn cX4_isIn 3 (some .boolean), .methodLink RX4 36 yX4_fail, .instanceMethod yX4_fail, .selects RX4 yX4_fail yX4_fail, .code yX4_fail cX4_fail 2 (some .int), .methodLink RX4 64 yX4_isDated, .instanceMethod yX4_isDated, .selects RX4 yX4_isDated yX4_isDated, .code yX4_isDated cX4_isDated 2 (some .boolean)] ++ wsX40)
def wsX4_later : List Cond := .code yX4_later cX4_later 3 (some .boolean) :: ([.fieldLink RX4 25 "CairnShellsModel" "thrown" "I", .fieldLink RX4 13 "CairnShellsModel" "beneath" "[I", .methodLink RX4 44 yX4_isLayer, .instanceMethod yX4_isLayer, .selects RX4 yX4_isLayer yX4_isLayer, .initialized RX4, .code yX4_isLayer cX4_isLayer 2 (some .boolean), .fieldLink RX4 29 "CairnShellsModel" "layers" "I", .methodLink RX4 32 yX4_isIn, .static yX4_isIn, .code yX4_isIn cX4_isIn 3 (some .boolean), .methodLink RX4 40 yX4_has, .static yX4_has, .code yX4_has cX4_has 2 (some .boolean)] ++ wsX40)
def wsX4_phases : List Cond := .code yX4_phases cX4_phases 5 (some (.array .int)) :: ([.arrayClass .int, .fieldLink RX4 29 "CairnShellsModel" "layers" "I", .fieldLink RX4 13 "CairnShellsModel" "beneath" "[I", .methodLink RX4 67 Lib.Math.max.name, .static Lib.Math.max.name, .initialized "java/lang/Math", .code Lib.Math.max.name Lib.Math.max.code 2 (some .int), .methodLink RX4 40 yX4_has, .static yX4_has, .initialized RX4, .code yX4_has cX4_has 2 (some .boolean)] ++ wsX40)
def wsX4_all : List Cond := .code yX4_all cX4_all 5 (some .int) :: ([.fieldLink RX4 29 "CairnShellsModel" "layers" "I", .fieldLink RX4 9 "CairnShellsModel" "alike" "[I", .fieldLink RX4 16 "CairnShellsModel" "sifted" "[I", .methodLink RX4 40 yX4_has, .static yX4_has, .initialized RX4, .code yX4_has cX4_has 2 (some .boolean)] ++ wsX40)
def wsX4_season : List Cond := .code yX4_season cX4_season 9 (some .int) :: ([.arrayClass .int, .methodLink RX4 82 yX4_all, .instanceMethod yX4_all, .selects RX4 yX4_all yX4_all, .initialized RX4, .code yX4_all cX4_all 5 (some .int), .fieldLink RX4 29 "CairnShellsModel" "layers" "I", .fieldLink RX4 9 "CairnShellsModel" "alike" "[I", .fieldLink RX4 16 "CairnShellsModel" "sifted" "[I", .methodLink RX4 40 yX4_has, .static yX4_has, .code yX4_has cX4_has 2 (some .boolean)] ++ wsX40)
def wsX4_laterThan : List Cond := .code yX4_laterThan cX4_laterThan 4 (some .int) :: ([.fieldLink RX4 29 "CairnShellsModel" "layers" "I", .fieldLink RX4 13 "CairnShellsModel" "beneath" "[I", .methodLink RX4 40 yX4_has, .static yX4_has, .initialized RX4, .code yX4_has cX4_has 2 (some .boolean)] ++ wsX40)
def wsX4_toldOf_r1 : List Cond := [Cond.fieldLink RX4 13 "CairnShellsModel" "beneath" "[I", Cond.fieldLink RX4 9 "CairnShellsModel" "alike" "[I", Cond.methodLink RX4 76 yX4_from, Cond.instanceMethod yX4_from, Cond.selects RX4 yX4_from yX4_from, Cond.initialized RX4, Cond.code yX4_from cX4_from 4 (some .int), Cond.fieldLink RX4 29 "CairnShellsModel" "layers" "I", Cond.fieldLink RX4 19 "CairnShellsModel" "froms" "[I", Cond.methodLink RX4 67 Lib.Math.max.name, Cond.static Lib.Math.max.name, Cond.initialized "java/lang/Math", Cond.code Lib.Math.max.name Lib.Math.max.code 2 (some .int), Cond.methodLink RX4 64 yX4_isDated, Cond.instanceMethod yX4_isDated, Cond.selects RX4 yX4_isDated yX4_isDated, Cond.code yX4_isDated cX4_isDated 2 (some .boolean), Cond.methodLink RX4 40 yX4_has, Cond.static yX4_has, Cond.code yX4_has cX4_has 2 (some .boolean), Cond.methodLink RX4 79 yX4_to, Cond.instanceMethod yX4_to, Cond.selects RX4 yX4_to yX4_to, Cond.code yX4_to cX4_to 4 (some .int)]
def wsX4_toldOf_r2 : List Cond := [Cond.fieldLink RX4 22 "CairnShellsModel" "tos" "[I", Cond.methodLink RX4 73 Lib.Math.min.name, Cond.static Lib.Math.min.name, Cond.code Lib.Math.min.name Lib.Math.min.code 2 (some .int), Cond.methodLink RX4 85 yX4_isDoubtful, Cond.instanceMethod yX4_isDoubtful, Cond.selects RX4 yX4_isDoubtful yX4_isDoubtful, Cond.code yX4_isDoubtful cX4_isDoubtful 2 (some .boolean), Cond.methodLink RX4 88 yX4_phases, Cond.instanceMethod yX4_phases, Cond.selects RX4 yX4_phases yX4_phases, Cond.code yX4_phases cX4_phases 5 (some (.array .int)), Cond.arrayClass .int, Cond.methodLink RX4 61 yX4_size, Cond.static yX4_size, Cond.code yX4_size cX4_size 3 (some .int), Cond.methodLink RX4 92 yX4_laterThan, Cond.instanceMethod yX4_laterThan, Cond.selects RX4 yX4_laterThan yX4_laterThan, Cond.code yX4_laterThan cX4_laterThan 4 (some .int), Cond.methodLink RX4 95 yX4_season, Cond.instanceMethod yX4_season, Cond.selects RX4 yX4_season yX4_season, Cond.code yX4_season cX4_season 9 (some .int)]
def wsX4_toldOf_r3 : List Cond := [Cond.methodLink RX4 82 yX4_all, Cond.instanceMethod yX4_all, Cond.selects RX4 yX4_all yX4_all, Cond.code yX4_all cX4_all 5 (some .int), Cond.fieldLink RX4 16 "CairnShellsModel" "sifted" "[I"]
def wsX4_toldOf : List Cond := .code yX4_toldOf cX4_toldOf 3 (some .int) :: ((wsX4_toldOf_r1 ++ (wsX4_toldOf_r2 ++ wsX4_toldOf_r3)) ++ wsX40)
def wsX4_told_r1 : List Cond := [Cond.fieldLink RX4 25 "CairnShellsModel" "thrown" "I", Cond.methodLink RX4 44 yX4_isLayer, Cond.instanceMethod yX4_isLayer, Cond.selects RX4 yX4_isLayer yX4_isLayer, Cond.initialized RX4, Cond.code yX4_isLayer cX4_isLayer 2 (some .boolean), Cond.fieldLink RX4 29 "CairnShellsModel" "layers" "I", Cond.methodLink RX4 32 yX4_isIn, Cond.static yX4_isIn, Cond.code yX4_isIn cX4_isIn 3 (some .boolean), Cond.methodLink RX4 98 yX4_toldOf, Cond.instanceMethod yX4_toldOf, Cond.selects RX4 yX4_toldOf yX4_toldOf, Cond.code yX4_toldOf cX4_toldOf 3 (some .int), Cond.fieldLink RX4 13 "CairnShellsModel" "beneath" "[I", Cond.fieldLink RX4 9 "CairnShellsModel" "alike" "[I", Cond.methodLink RX4 76 yX4_from, Cond.instanceMethod yX4_from, Cond.selects RX4 yX4_from yX4_from, Cond.code yX4_from cX4_from 4 (some .int), Cond.fieldLink RX4 19 "CairnShellsModel" "froms" "[I", Cond.methodLink RX4 67 Lib.Math.max.name, Cond.static Lib.Math.max.name, Cond.initialized "java/lang/Math"]
def wsX4_told_r2 : List Cond := [Cond.code Lib.Math.max.name Lib.Math.max.code 2 (some .int), Cond.methodLink RX4 64 yX4_isDated, Cond.instanceMethod yX4_isDated, Cond.selects RX4 yX4_isDated yX4_isDated, Cond.code yX4_isDated cX4_isDated 2 (some .boolean), Cond.methodLink RX4 40 yX4_has, Cond.static yX4_has, Cond.code yX4_has cX4_has 2 (some .boolean), Cond.methodLink RX4 79 yX4_to, Cond.instanceMethod yX4_to, Cond.selects RX4 yX4_to yX4_to, Cond.code yX4_to cX4_to 4 (some .int), Cond.fieldLink RX4 22 "CairnShellsModel" "tos" "[I", Cond.methodLink RX4 73 Lib.Math.min.name, Cond.static Lib.Math.min.name, Cond.code Lib.Math.min.name Lib.Math.min.code 2 (some .int), Cond.methodLink RX4 85 yX4_isDoubtful, Cond.instanceMethod yX4_isDoubtful, Cond.selects RX4 yX4_isDoubtful yX4_isDoubtful, Cond.code yX4_isDoubtful cX4_isDoubtful 2 (some .boolean), Cond.methodLink RX4 88 yX4_phases, Cond.instanceMethod yX4_phases, Cond.selects RX4 yX4_phases yX4_phases, Cond.code yX4_phases cX4_phases 5 (some (.array .int))]
def wsX4_told_r3 : List Cond := [Cond.arrayClass .int, Cond.methodLink RX4 61 yX4_size, Cond.static yX4_size, Cond.code yX4_size cX4_size 3 (some .int), Cond.methodLink RX4 92 yX4_laterThan, Cond.instanceMethod yX4_laterThan, Cond.selects RX4 yX4_laterThan yX4_laterThan, Cond.code yX4_laterThan cX4_laterThan 4 (some .int), Cond.methodLink RX4 95 yX4_season, Cond.instanceMethod yX4_season, Cond.selects RX4 yX4_season yX4_season, Cond.code yX4_season cX4_season 9 (some .int), Cond.methodLink RX4 82 yX4_all, Cond.instanceMethod yX4_all, Cond.selects RX4 yX4_all yX4_all, Cond.code yX4_all cX4_all 5 (some .int), Cond.fieldLink RX4 16 "CairnShellsModel" "sifted" "[I", Cond.methodLink RX4 36 yX4_fail, Cond.instanceMethod yX4_fail, Cond.selects RX4 yX4_fail yX4_fail, Cond.code yX4_fail cX4_fail 2 (some .int)]
def wsX4_told : List Cond := .code yX4_told cX4_told 3 (some .int) :: ((wsX4_told_r1 ++ (wsX4_told_r2 ++ wsX4_told_r3)) ++ wsX40)
def wsX4_finds : List Cond := .code yX4_finds cX4_finds 3 (some .int) :: ([.fieldLink RX4 25 "CairnShellsModel" "thrown" "I", .methodLink RX4 44 yX4_isLayer, .instanceMethod yX4_isLayer, .selects RX4 yX4_isLayer yX4_isLayer, .initialized RX4, .code yX4_isLayer cX4_isLayer 2 (some .boolean), .fieldLink RX4 29 "CairnShellsModel" "layers" "I", .methodLink RX4 32 yX4_isIn, .static yX4_isIn, .code yX4_isIn cX4_isIn 3 (some .boolean), .methodLink RX4 82 yX4_all, .instanceMethod yX4_all, .selects RX4 yX4_all yX4_all, .code yX4_all cX4_all 5 (some .int), .fieldLink RX4 9 "CairnShellsModel" "alike" "[I", .fieldLink RX4 16 "CairnShellsModel" "sifted" "[I", .methodLink RX4 40 yX4_has, .static yX4_has, .code yX4_has cX4_has 2 (some .boolean), .methodLink RX4 36 yX4_fail, .instanceMethod yX4_fail, .selects RX4 yX4_fail yX4_fail, .code yX4_fail cX4_fail 2 (some .int)] ++ wsX40)
def wsX4_orderAt : List Cond := .code yX4_orderAt cX4_orderAt 5 (some .int) :: ([.fieldLink RX4 29 "CairnShellsModel" "layers" "I", .fieldLink RX4 13 "CairnShellsModel" "beneath" "[I", .methodLink RX4 40 yX4_has, .static yX4_has, .initialized RX4, .code yX4_has cX4_has 2 (some .boolean)] ++ wsX40)
def wsX4_order : List Cond := .code yX4_order cX4_order 2 (some .int) :: ([.fieldLink RX4 25 "CairnShellsModel" "thrown" "I", .methodLink RX4 44 yX4_isLayer, .instanceMethod yX4_isLayer, .selects RX4 yX4_isLayer yX4_isLayer, .initialized RX4, .code yX4_isLayer cX4_isLayer 2 (some .boolean), .fieldLink RX4 29 "CairnShellsModel" "layers" "I", .methodLink RX4 32 yX4_isIn, .static yX4_isIn, .code yX4_isIn cX4_isIn 3 (some .boolean), .methodLink RX4 101 yX4_orderAt, .instanceMethod yX4_orderAt, .selects RX4 yX4_orderAt yX4_orderAt, .code yX4_orderAt cX4_orderAt 5 (some .int), .fieldLink RX4 13 "CairnShellsModel" "beneath" "[I", .methodLink RX4 40 yX4_has, .static yX4_has, .code yX4_has cX4_has 2 (some .boolean), .methodLink RX4 36 yX4_fail, .instanceMethod yX4_fail, .selects RX4 yX4_fail yX4_fail, .code yX4_fail cX4_fail 2 (some .int)] ++ wsX40)
def wsX4_within : List Cond := .code yX4_within cX4_within 5 (some .int) :: ([.fieldLink RX4 29 "CairnShellsModel" "layers" "I", .fieldLink RX4 13 "CairnShellsModel" "beneath" "[I", .methodLink RX4 40 yX4_has, .static yX4_has, .initialized RX4, .code yX4_has cX4_has 2 (some .boolean)] ++ wsX40)
def wsX4_between : List Cond := .code yX4_between cX4_between 3 (some .int) :: ([.fieldLink RX4 25 "CairnShellsModel" "thrown" "I", .fieldLink RX4 13 "CairnShellsModel" "beneath" "[I", .methodLink RX4 44 yX4_isLayer, .instanceMethod yX4_isLayer, .selects RX4 yX4_isLayer yX4_isLayer, .initialized RX4, .code yX4_isLayer cX4_isLayer 2 (some .boolean), .fieldLink RX4 29 "CairnShellsModel" "layers" "I", .methodLink RX4 32 yX4_isIn, .static yX4_isIn, .code yX4_isIn cX4_isIn 3 (some .boolean), .methodLink RX4 36 yX4_fail, .instanceMethod yX4_fail, .selects RX4 yX4_fail yX4_fail, .code yX4_fail cX4_fail 2 (some .int), .methodLink RX4 40 yX4_has, .static yX4_has, .code yX4_has cX4_has 2 (some .boolean), .methodLink RX4 104 yX4_within, .instanceMethod yX4_within, .selects RX4 yX4_within yX4_within, .code yX4_within cX4_within 5 (some .int)] ++ wsX40)
def wsX4_doubtful_r1 : List Cond := [Cond.fieldLink RX4 29 "CairnShellsModel" "layers" "I", Cond.methodLink RX4 85 yX4_isDoubtful, Cond.instanceMethod yX4_isDoubtful, Cond.selects RX4 yX4_isDoubtful yX4_isDoubtful, Cond.initialized RX4, Cond.code yX4_isDoubtful cX4_isDoubtful 2 (some .boolean), Cond.methodLink RX4 76 yX4_from, Cond.instanceMethod yX4_from, Cond.selects RX4 yX4_from yX4_from, Cond.code yX4_from cX4_from 4 (some .int), Cond.fieldLink RX4 9 "CairnShellsModel" "alike" "[I", Cond.fieldLink RX4 13 "CairnShellsModel" "beneath" "[I", Cond.fieldLink RX4 19 "CairnShellsModel" "froms" "[I", Cond.methodLink RX4 67 Lib.Math.max.name, Cond.static Lib.Math.max.name, Cond.initialized "java/lang/Math", Cond.code Lib.Math.max.name Lib.Math.max.code 2 (some .int), Cond.methodLink RX4 64 yX4_isDated, Cond.instanceMethod yX4_isDated, Cond.selects RX4 yX4_isDated yX4_isDated, Cond.code yX4_isDated cX4_isDated 2 (some .boolean), Cond.methodLink RX4 40 yX4_has, Cond.static yX4_has, Cond.code yX4_has cX4_has 2 (some .boolean)]
def wsX4_doubtful_r2 : List Cond := [Cond.methodLink RX4 79 yX4_to, Cond.instanceMethod yX4_to, Cond.selects RX4 yX4_to yX4_to, Cond.code yX4_to cX4_to 4 (some .int), Cond.fieldLink RX4 22 "CairnShellsModel" "tos" "[I", Cond.methodLink RX4 73 Lib.Math.min.name, Cond.static Lib.Math.min.name, Cond.code Lib.Math.min.name Lib.Math.min.code 2 (some .int)]
def wsX4_doubtful : List Cond := .code yX4_doubtful cX4_doubtful 3 (some .int) :: ((wsX4_doubtful_r1 ++ wsX4_doubtful_r2) ++ wsX40)
def wsX4_pairs : List Cond := .code yX4_pairs cX4_pairs 3 (some .int) :: ([.fieldLink RX4 29 "CairnShellsModel" "layers" "I", .fieldLink RX4 13 "CairnShellsModel" "beneath" "[I", .methodLink RX4 61 yX4_size, .static yX4_size, .initialized RX4, .code yX4_size cX4_size 3 (some .int)] ++ wsX40)
def wsX4_counted_r1 : List Cond := [Cond.fieldLink RX4 29 "CairnShellsModel" "layers" "I", Cond.methodLink RX4 67 Lib.Math.max.name, Cond.static Lib.Math.max.name, Cond.initialized "java/lang/Math", Cond.code Lib.Math.max.name Lib.Math.max.code 2 (some .int), Cond.fieldLink RX4 9 "CairnShellsModel" "alike" "[I", Cond.fieldLink RX4 16 "CairnShellsModel" "sifted" "[I", Cond.methodLink RX4 88 yX4_phases, Cond.instanceMethod yX4_phases, Cond.selects RX4 yX4_phases yX4_phases, Cond.initialized RX4, Cond.code yX4_phases cX4_phases 5 (some (.array .int)), Cond.arrayClass .int, Cond.fieldLink RX4 13 "CairnShellsModel" "beneath" "[I", Cond.methodLink RX4 40 yX4_has, Cond.static yX4_has, Cond.code yX4_has cX4_has 2 (some .boolean), Cond.methodLink RX4 107 yX4_doubtful, Cond.instanceMethod yX4_doubtful, Cond.selects RX4 yX4_doubtful yX4_doubtful, Cond.code yX4_doubtful cX4_doubtful 3 (some .int), Cond.methodLink RX4 85 yX4_isDoubtful, Cond.instanceMethod yX4_isDoubtful, Cond.selects RX4 yX4_isDoubtful yX4_isDoubtful]
def wsX4_counted_r2 : List Cond := [Cond.code yX4_isDoubtful cX4_isDoubtful 2 (some .boolean), Cond.methodLink RX4 76 yX4_from, Cond.instanceMethod yX4_from, Cond.selects RX4 yX4_from yX4_from, Cond.code yX4_from cX4_from 4 (some .int), Cond.fieldLink RX4 19 "CairnShellsModel" "froms" "[I", Cond.methodLink RX4 64 yX4_isDated, Cond.instanceMethod yX4_isDated, Cond.selects RX4 yX4_isDated yX4_isDated, Cond.code yX4_isDated cX4_isDated 2 (some .boolean), Cond.methodLink RX4 79 yX4_to, Cond.instanceMethod yX4_to, Cond.selects RX4 yX4_to yX4_to, Cond.code yX4_to cX4_to 4 (some .int), Cond.fieldLink RX4 22 "CairnShellsModel" "tos" "[I", Cond.methodLink RX4 73 Lib.Math.min.name, Cond.static Lib.Math.min.name, Cond.code Lib.Math.min.name Lib.Math.min.code 2 (some .int), Cond.methodLink RX4 111 yX4_pairs, Cond.instanceMethod yX4_pairs, Cond.selects RX4 yX4_pairs yX4_pairs, Cond.code yX4_pairs cX4_pairs 3 (some .int), Cond.methodLink RX4 61 yX4_size, Cond.static yX4_size]
def wsX4_counted_r3 : List Cond := [Cond.code yX4_size cX4_size 3 (some .int)]
def wsX4_counted : List Cond := .code yX4_counted cX4_counted 7 (some .int) :: ((wsX4_counted_r1 ++ (wsX4_counted_r2 ++ wsX4_counted_r3)) ++ wsX40)
def wsX4_count_r1 : List Cond := [Cond.fieldLink RX4 25 "CairnShellsModel" "thrown" "I", Cond.methodLink RX4 32 yX4_isIn, Cond.static yX4_isIn, Cond.initialized RX4, Cond.code yX4_isIn cX4_isIn 3 (some .boolean), Cond.methodLink RX4 114 yX4_counted, Cond.instanceMethod yX4_counted, Cond.selects RX4 yX4_counted yX4_counted, Cond.code yX4_counted cX4_counted 7 (some .int), Cond.fieldLink RX4 29 "CairnShellsModel" "layers" "I", Cond.methodLink RX4 67 Lib.Math.max.name, Cond.static Lib.Math.max.name, Cond.initialized "java/lang/Math", Cond.code Lib.Math.max.name Lib.Math.max.code 2 (some .int), Cond.fieldLink RX4 9 "CairnShellsModel" "alike" "[I", Cond.fieldLink RX4 16 "CairnShellsModel" "sifted" "[I", Cond.methodLink RX4 88 yX4_phases, Cond.instanceMethod yX4_phases, Cond.selects RX4 yX4_phases yX4_phases, Cond.code yX4_phases cX4_phases 5 (some (.array .int)), Cond.arrayClass .int, Cond.fieldLink RX4 13 "CairnShellsModel" "beneath" "[I", Cond.methodLink RX4 40 yX4_has, Cond.static yX4_has]
def wsX4_count_r2 : List Cond := [Cond.code yX4_has cX4_has 2 (some .boolean), Cond.methodLink RX4 107 yX4_doubtful, Cond.instanceMethod yX4_doubtful, Cond.selects RX4 yX4_doubtful yX4_doubtful, Cond.code yX4_doubtful cX4_doubtful 3 (some .int), Cond.methodLink RX4 85 yX4_isDoubtful, Cond.instanceMethod yX4_isDoubtful, Cond.selects RX4 yX4_isDoubtful yX4_isDoubtful, Cond.code yX4_isDoubtful cX4_isDoubtful 2 (some .boolean), Cond.methodLink RX4 76 yX4_from, Cond.instanceMethod yX4_from, Cond.selects RX4 yX4_from yX4_from, Cond.code yX4_from cX4_from 4 (some .int), Cond.fieldLink RX4 19 "CairnShellsModel" "froms" "[I", Cond.methodLink RX4 64 yX4_isDated, Cond.instanceMethod yX4_isDated, Cond.selects RX4 yX4_isDated yX4_isDated, Cond.code yX4_isDated cX4_isDated 2 (some .boolean), Cond.methodLink RX4 79 yX4_to, Cond.instanceMethod yX4_to, Cond.selects RX4 yX4_to yX4_to, Cond.code yX4_to cX4_to 4 (some .int), Cond.fieldLink RX4 22 "CairnShellsModel" "tos" "[I", Cond.methodLink RX4 73 Lib.Math.min.name]
def wsX4_count_r3 : List Cond := [Cond.static Lib.Math.min.name, Cond.code Lib.Math.min.name Lib.Math.min.code 2 (some .int), Cond.methodLink RX4 111 yX4_pairs, Cond.instanceMethod yX4_pairs, Cond.selects RX4 yX4_pairs yX4_pairs, Cond.code yX4_pairs cX4_pairs 3 (some .int), Cond.methodLink RX4 61 yX4_size, Cond.static yX4_size, Cond.code yX4_size cX4_size 3 (some .int), Cond.methodLink RX4 36 yX4_fail, Cond.instanceMethod yX4_fail, Cond.selects RX4 yX4_fail yX4_fail, Cond.code yX4_fail cX4_fail 2 (some .int)]
def wsX4_count : List Cond := .code yX4_count cX4_count 2 (some .int) :: ((wsX4_count_r1 ++ (wsX4_count_r2 ++ wsX4_count_r3)) ++ wsX40)
def wsX4_blame_r1 : List Cond := [Cond.fieldLink RX4 25 "CairnShellsModel" "thrown" "I", Cond.fieldLink RX4 29 "CairnShellsModel" "layers" "I", Cond.fieldLink RX4 19 "CairnShellsModel" "froms" "[I", Cond.methodLink RX4 107 yX4_doubtful, Cond.instanceMethod yX4_doubtful, Cond.selects RX4 yX4_doubtful yX4_doubtful, Cond.initialized RX4, Cond.code yX4_doubtful cX4_doubtful 3 (some .int), Cond.methodLink RX4 85 yX4_isDoubtful, Cond.instanceMethod yX4_isDoubtful, Cond.selects RX4 yX4_isDoubtful yX4_isDoubtful, Cond.code yX4_isDoubtful cX4_isDoubtful 2 (some .boolean), Cond.methodLink RX4 76 yX4_from, Cond.instanceMethod yX4_from, Cond.selects RX4 yX4_from yX4_from, Cond.code yX4_from cX4_from 4 (some .int), Cond.fieldLink RX4 9 "CairnShellsModel" "alike" "[I", Cond.fieldLink RX4 13 "CairnShellsModel" "beneath" "[I", Cond.methodLink RX4 67 Lib.Math.max.name, Cond.static Lib.Math.max.name, Cond.initialized "java/lang/Math", Cond.code Lib.Math.max.name Lib.Math.max.code 2 (some .int), Cond.methodLink RX4 64 yX4_isDated, Cond.instanceMethod yX4_isDated]
def wsX4_blame_r2 : List Cond := [Cond.selects RX4 yX4_isDated yX4_isDated, Cond.code yX4_isDated cX4_isDated 2 (some .boolean), Cond.methodLink RX4 40 yX4_has, Cond.static yX4_has, Cond.code yX4_has cX4_has 2 (some .boolean), Cond.methodLink RX4 79 yX4_to, Cond.instanceMethod yX4_to, Cond.selects RX4 yX4_to yX4_to, Cond.code yX4_to cX4_to 4 (some .int), Cond.fieldLink RX4 22 "CairnShellsModel" "tos" "[I", Cond.methodLink RX4 73 Lib.Math.min.name, Cond.static Lib.Math.min.name, Cond.code Lib.Math.min.name Lib.Math.min.code 2 (some .int)]
def wsX4_blame : List Cond := .code yX4_blame cX4_blame 6 (some .int) :: ((wsX4_blame_r1 ++ wsX4_blame_r2) ++ wsX40)
def wsX4_narrows_r1 : List Cond := [Cond.fieldLink RX4 25 "CairnShellsModel" "thrown" "I", Cond.arrayClass .int, Cond.fieldLink RX4 29 "CairnShellsModel" "layers" "I", Cond.fieldLink RX4 19 "CairnShellsModel" "froms" "[I", Cond.fieldLink RX4 22 "CairnShellsModel" "tos" "[I", Cond.methodLink RX4 44 yX4_isLayer, Cond.instanceMethod yX4_isLayer, Cond.selects RX4 yX4_isLayer yX4_isLayer, Cond.initialized RX4, Cond.code yX4_isLayer cX4_isLayer 2 (some .boolean), Cond.methodLink RX4 32 yX4_isIn, Cond.static yX4_isIn, Cond.code yX4_isIn cX4_isIn 3 (some .boolean), Cond.methodLink RX4 36 yX4_fail, Cond.instanceMethod yX4_fail, Cond.selects RX4 yX4_fail yX4_fail, Cond.code yX4_fail cX4_fail 2 (some .int), Cond.methodLink RX4 79 yX4_to, Cond.instanceMethod yX4_to, Cond.selects RX4 yX4_to yX4_to, Cond.code yX4_to cX4_to 4 (some .int), Cond.fieldLink RX4 9 "CairnShellsModel" "alike" "[I", Cond.fieldLink RX4 13 "CairnShellsModel" "beneath" "[I", Cond.methodLink RX4 73 Lib.Math.min.name]
def wsX4_narrows_r2 : List Cond := [Cond.static Lib.Math.min.name, Cond.initialized "java/lang/Math", Cond.code Lib.Math.min.name Lib.Math.min.code 2 (some .int), Cond.methodLink RX4 64 yX4_isDated, Cond.instanceMethod yX4_isDated, Cond.selects RX4 yX4_isDated yX4_isDated, Cond.code yX4_isDated cX4_isDated 2 (some .boolean), Cond.methodLink RX4 40 yX4_has, Cond.static yX4_has, Cond.code yX4_has cX4_has 2 (some .boolean), Cond.methodLink RX4 76 yX4_from, Cond.instanceMethod yX4_from, Cond.selects RX4 yX4_from yX4_from, Cond.code yX4_from cX4_from 4 (some .int), Cond.methodLink RX4 67 Lib.Math.max.name, Cond.static Lib.Math.max.name, Cond.code Lib.Math.max.name Lib.Math.max.code 2 (some .int), Cond.methodLink RX4 85 yX4_isDoubtful, Cond.instanceMethod yX4_isDoubtful, Cond.selects RX4 yX4_isDoubtful yX4_isDoubtful, Cond.code yX4_isDoubtful cX4_isDoubtful 2 (some .boolean)]
def wsX4_narrows : List Cond := .code yX4_narrows cX4_narrows 8 (some .int) :: ((wsX4_narrows_r1 ++ wsX4_narrows_r2) ++ wsX40)
def wsX4_tells_r1 : List Cond := [Cond.fieldLink RX4 25 "CairnShellsModel" "thrown" "I", Cond.fieldLink RX4 13 "CairnShellsModel" "beneath" "[I", Cond.methodLink RX4 117 ⟨"[I", "clone", "()Ljava/lang/Object;"⟩, Cond.sameMethod "[I" "java/lang/Object" "clone" "()Ljava/lang/Object;", Cond.native ⟨"java/lang/Object", "clone", "()Ljava/lang/Object;"⟩, Cond.instanceMethod ⟨"java/lang/Object", "clone", "()Ljava/lang/Object;"⟩, Cond.selects "[I" ⟨"[I", "clone", "()Ljava/lang/Object;"⟩ ⟨"java/lang/Object", "clone", "()Ljava/lang/Object;"⟩, Cond.classLink RX4 118 "[I", Cond.fieldLink RX4 9 "CairnShellsModel" "alike" "[I", Cond.methodLink RX4 122 arraycopyName, Cond.native arraycopyName, Cond.static arraycopyName, Cond.initialized "java/lang/System", Cond.methodLink RX4 44 yX4_isLayer, Cond.instanceMethod yX4_isLayer, Cond.selects RX4 yX4_isLayer yX4_isLayer, Cond.initialized RX4, Cond.code yX4_isLayer cX4_isLayer 2 (some .boolean), Cond.fieldLink RX4 29 "CairnShellsModel" "layers" "I", Cond.methodLink RX4 32 yX4_isIn, Cond.static yX4_isIn, Cond.code yX4_isIn cX4_isIn 3 (some .boolean), Cond.methodLink RX4 36 yX4_fail, Cond.instanceMethod yX4_fail]
def wsX4_tells_r2 : List Cond := [Cond.selects RX4 yX4_fail yX4_fail, Cond.code yX4_fail cX4_fail 2 (some .int), Cond.methodLink RX4 48 yX4_isRefused, Cond.instanceMethod yX4_isRefused, Cond.selects RX4 yX4_isRefused yX4_isRefused, Cond.code yX4_isRefused cX4_isRefused 3 (some .boolean), Cond.methodLink RX4 40 yX4_has, Cond.static yX4_has, Cond.code yX4_has cX4_has 2 (some .boolean), Cond.methodLink RX4 111 yX4_pairs, Cond.instanceMethod yX4_pairs, Cond.selects RX4 yX4_pairs yX4_pairs, Cond.code yX4_pairs cX4_pairs 3 (some .int), Cond.methodLink RX4 61 yX4_size, Cond.static yX4_size, Cond.code yX4_size cX4_size 3 (some .int), Cond.methodLink RX4 51 yX4_andAbove, Cond.instanceMethod yX4_andAbove, Cond.selects RX4 yX4_andAbove yX4_andAbove, Cond.code yX4_andAbove cX4_andAbove 4 (some .int), Cond.methodLink RX4 54 yX4_andBeneath, Cond.instanceMethod yX4_andBeneath, Cond.selects RX4 yX4_andBeneath yX4_andBeneath, Cond.code yX4_andBeneath cX4_andBeneath 4 (some .int)]
def wsX4_tells_r3 : List Cond := [Cond.methodLink RX4 57 yX4_lay, Cond.instanceMethod yX4_lay, Cond.selects RX4 yX4_lay yX4_lay, Cond.code yX4_lay cX4_lay 4 none]
def wsX4_tells : List Cond := .code yX4_tells cX4_tells 6 (some .int) :: ((wsX4_tells_r1 ++ (wsX4_tells_r2 ++ wsX4_tells_r3)) ++ wsX40)
def wsX4_mean : List Cond := .code yX4_mean cX4_mean 6 (some .double) :: ([.fieldLink RX4 25 "CairnShellsModel" "thrown" "I", .fieldLink RX4 29 "CairnShellsModel" "layers" "I", .methodLink RX4 88 yX4_phases, .instanceMethod yX4_phases, .selects RX4 yX4_phases yX4_phases, .initialized RX4, .code yX4_phases cX4_phases 5 (some (.array .int)), .arrayClass .int, .fieldLink RX4 13 "CairnShellsModel" "beneath" "[I", .methodLink RX4 67 Lib.Math.max.name, .static Lib.Math.max.name, .initialized "java/lang/Math", .code Lib.Math.max.name Lib.Math.max.code 2 (some .int), .methodLink RX4 40 yX4_has, .static yX4_has, .code yX4_has cX4_has 2 (some .boolean)] ++ wsX40)
def wsX4_digest_r1 : List Cond := [Cond.fieldLink RX4 25 "CairnShellsModel" "thrown" "I", Cond.constantLong RX4 128 (1361), Cond.constantLong RX4 130 (31), Cond.fieldLink RX4 29 "CairnShellsModel" "layers" "I", Cond.fieldLink RX4 13 "CairnShellsModel" "beneath" "[I", Cond.methodLink RX4 114 yX4_counted, Cond.instanceMethod yX4_counted, Cond.selects RX4 yX4_counted yX4_counted, Cond.initialized RX4, Cond.code yX4_counted cX4_counted 7 (some .int), Cond.methodLink RX4 67 Lib.Math.max.name, Cond.static Lib.Math.max.name, Cond.initialized "java/lang/Math", Cond.code Lib.Math.max.name Lib.Math.max.code 2 (some .int), Cond.fieldLink RX4 9 "CairnShellsModel" "alike" "[I", Cond.fieldLink RX4 16 "CairnShellsModel" "sifted" "[I", Cond.methodLink RX4 88 yX4_phases, Cond.instanceMethod yX4_phases, Cond.selects RX4 yX4_phases yX4_phases, Cond.code yX4_phases cX4_phases 5 (some (.array .int)), Cond.arrayClass .int, Cond.methodLink RX4 40 yX4_has, Cond.static yX4_has, Cond.code yX4_has cX4_has 2 (some .boolean)]
def wsX4_digest_r2 : List Cond := [Cond.methodLink RX4 107 yX4_doubtful, Cond.instanceMethod yX4_doubtful, Cond.selects RX4 yX4_doubtful yX4_doubtful, Cond.code yX4_doubtful cX4_doubtful 3 (some .int), Cond.methodLink RX4 85 yX4_isDoubtful, Cond.instanceMethod yX4_isDoubtful, Cond.selects RX4 yX4_isDoubtful yX4_isDoubtful, Cond.code yX4_isDoubtful cX4_isDoubtful 2 (some .boolean), Cond.methodLink RX4 76 yX4_from, Cond.instanceMethod yX4_from, Cond.selects RX4 yX4_from yX4_from, Cond.code yX4_from cX4_from 4 (some .int), Cond.fieldLink RX4 19 "CairnShellsModel" "froms" "[I", Cond.methodLink RX4 64 yX4_isDated, Cond.instanceMethod yX4_isDated, Cond.selects RX4 yX4_isDated yX4_isDated, Cond.code yX4_isDated cX4_isDated 2 (some .boolean), Cond.methodLink RX4 79 yX4_to, Cond.instanceMethod yX4_to, Cond.selects RX4 yX4_to yX4_to, Cond.code yX4_to cX4_to 4 (some .int), Cond.fieldLink RX4 22 "CairnShellsModel" "tos" "[I", Cond.methodLink RX4 73 Lib.Math.min.name, Cond.static Lib.Math.min.name]
def wsX4_digest_r3 : List Cond := [Cond.code Lib.Math.min.name Lib.Math.min.code 2 (some .int), Cond.methodLink RX4 111 yX4_pairs, Cond.instanceMethod yX4_pairs, Cond.selects RX4 yX4_pairs yX4_pairs, Cond.code yX4_pairs cX4_pairs 3 (some .int), Cond.methodLink RX4 61 yX4_size, Cond.static yX4_size, Cond.code yX4_size cX4_size 3 (some .int), Cond.methodLink RX4 101 yX4_orderAt, Cond.instanceMethod yX4_orderAt, Cond.selects RX4 yX4_orderAt yX4_orderAt, Cond.code yX4_orderAt cX4_orderAt 5 (some .int), Cond.methodLink RX4 98 yX4_toldOf, Cond.instanceMethod yX4_toldOf, Cond.selects RX4 yX4_toldOf yX4_toldOf, Cond.code yX4_toldOf cX4_toldOf 3 (some .int), Cond.methodLink RX4 92 yX4_laterThan, Cond.instanceMethod yX4_laterThan, Cond.selects RX4 yX4_laterThan yX4_laterThan, Cond.code yX4_laterThan cX4_laterThan 4 (some .int), Cond.methodLink RX4 95 yX4_season, Cond.instanceMethod yX4_season, Cond.selects RX4 yX4_season yX4_season, Cond.code yX4_season cX4_season 9 (some .int)]
def wsX4_digest_r4 : List Cond := [Cond.methodLink RX4 82 yX4_all, Cond.instanceMethod yX4_all, Cond.selects RX4 yX4_all yX4_all, Cond.code yX4_all cX4_all 5 (some .int)]
def wsX4_digest : List Cond := .code yX4_digest cX4_digest 5 (some .long) :: ((wsX4_digest_r1 ++ (wsX4_digest_r2 ++ (wsX4_digest_r3 ++ wsX4_digest_r4))) ++ wsX40)
def wsJ9_max_7cf53 : List Cond := .code yJ9_max_7cf53 cJ9_max_7cf53 2 (some .int) :: ([])
def wsJ9_min_7cf53 : List Cond := .code yJ9_min_7cf53 cJ9_min_7cf53 2 (some .int) :: ([])
def wsL_find_r1 : List Cond := [Cond.classLink RL 13 "java/lang/IllegalStateException", Cond.methodLink RL 7 yX3_find, Cond.instanceMethod yX3_find, Cond.selects RX3 yX3_find yX3_find, Cond.initialized RX3, Cond.code yX3_find cX3_find 1 (some .int), Cond.classLink RX3 37 "java/lang/IllegalStateException", Cond.initialized "java/lang/IllegalStateException", Cond.fieldLink RX3 10 "CairnShells" "strata" "LCairnShells$Strata;", Cond.methodLink RX3 33 yX2_size, Cond.instanceMethod yX2_size, Cond.selects RX2 yX2_size yX2_size, Cond.initialized RX2, Cond.code yX2_size cX2_size 1 (some .int), Cond.fieldLink RX2 27 "CairnShells$Strata" "layers" "I", Cond.methodLink RX3 44 yX2_addLayer, Cond.instanceMethod yX2_addLayer, Cond.selects RX2 yX2_addLayer yX2_addLayer, Cond.code yX2_addLayer cX2_addLayer 2 (some .int), Cond.fieldLink RX2 9 "CairnShells$Strata" "alikes" "[I", Cond.methodLink RX2 38 yX2_arrange, Cond.instanceMethod yX2_arrange, Cond.selects RX2 yX2_arrange yX2_arrange, Cond.code yX2_arrange cX2_arrange 4 none]
def wsL_find_r2 : List Cond := [Cond.fieldLink RX2 21 "CairnShells$Strata" "order" "[I", Cond.fieldLink RX2 24 "CairnShells$Strata" "phaseOf" "[I", Cond.fieldLink RX2 15 "CairnShells$Strata" "belows" "[I", Cond.methodLink RX2 45 yX2_lowestFree, Cond.instanceMethod yX2_lowestFree, Cond.selects RX2 yX2_lowestFree yX2_lowestFree, Cond.code yX2_lowestFree cX2_lowestFree 3 (some .int), Cond.static yX3_has, Cond.code yX3_has cX3_has 2 (some .boolean), Cond.methodLink RX2 49 yX2_phaseOver, Cond.instanceMethod yX2_phaseOver, Cond.selects RX2 yX2_phaseOver yX2_phaseOver, Cond.code yX2_phaseOver cX2_phaseOver 4 (some .int), Cond.methodLink RX2 52 Lib.Math.max.name, Cond.static Lib.Math.max.name, Cond.initialized "java/lang/Math", Cond.code Lib.Math.max.name Lib.Math.max.code 2 (some .int)]
def wsL_find : List Cond := .codeWith yL_find cL_find 3 (some .int) [(0, 8, 11, 13)] :: ((wsL_find_r1 ++ wsL_find_r2) ++ wsX30 ++ wsX20 ++ (vx_atS RX3 41 "java/lang/IllegalStateException" ["java/lang/RuntimeException", "java/lang/Exception"]).filter goodWord)
def wsL_above_r1 : List Cond := [Cond.classLink RL 19 "java/lang/IndexOutOfBoundsException", Cond.classLink RL 13 "java/lang/IllegalStateException", Cond.methodLink RL 15 yX3_above, Cond.instanceMethod yX3_above, Cond.selects RX3 yX3_above yX3_above, Cond.initialized RX3, Cond.code yX3_above cX3_above 3 (some .int), Cond.classLink RX3 37 "java/lang/IllegalStateException", Cond.initialized "java/lang/IllegalStateException", Cond.fieldLink RX3 10 "CairnShells" "strata" "LCairnShells$Strata;", Cond.methodLink RX3 47 yX3_checkLayer, Cond.instanceMethod yX3_checkLayer, Cond.selects RX3 yX3_checkLayer yX3_checkLayer, Cond.code yX3_checkLayer cX3_checkLayer 2 none, Cond.methodLink RX3 33 yX2_size, Cond.instanceMethod yX2_size, Cond.selects RX2 yX2_size yX2_size, Cond.initialized RX2, Cond.code yX2_size cX2_size 1 (some .int), Cond.fieldLink RX2 27 "CairnShells$Strata" "layers" "I", Cond.methodLink RX3 114 yX3_checkIndex, Cond.static yX3_checkIndex, Cond.code yX3_checkIndex cX3_checkIndex 2 none, Cond.classLink RX3 168 "java/lang/IndexOutOfBoundsException"]
def wsL_above_r2 : List Cond := [Cond.initialized "java/lang/IndexOutOfBoundsException", Cond.methodLink RX3 51 yX2_refusesAbove, Cond.instanceMethod yX2_refusesAbove, Cond.selects RX2 yX2_refusesAbove yX2_refusesAbove, Cond.code yX2_refusesAbove cX2_refusesAbove 3 (some .boolean), Cond.fieldLink RX2 9 "CairnShells$Strata" "alikes" "[I", Cond.static yX3_has, Cond.code yX3_has cX3_has 2 (some .boolean), Cond.methodLink RX2 35 yX2_isLater, Cond.instanceMethod yX2_isLater, Cond.selects RX2 yX2_isLater yX2_isLater, Cond.code yX2_isLater cX2_isLater 3 (some .boolean), Cond.fieldLink RX2 15 "CairnShells$Strata" "belows" "[I", Cond.methodLink RX3 57 yX2_putAbove, Cond.instanceMethod yX2_putAbove, Cond.selects RX2 yX2_putAbove yX2_putAbove, Cond.code yX2_putAbove cX2_putAbove 3 none, Cond.fieldLink RX2 18 "CairnShells$Strata" "tops" "[I", Cond.methodLink RX2 41 yX2_link, Cond.instanceMethod yX2_link, Cond.selects RX2 yX2_link yX2_link, Cond.code yX2_link cX2_link 4 none, Cond.methodLink RX2 38 yX2_arrange, Cond.instanceMethod yX2_arrange]
def wsL_above_r3 : List Cond := [Cond.selects RX2 yX2_arrange yX2_arrange, Cond.code yX2_arrange cX2_arrange 4 none, Cond.fieldLink RX2 21 "CairnShells$Strata" "order" "[I", Cond.fieldLink RX2 24 "CairnShells$Strata" "phaseOf" "[I", Cond.methodLink RX2 45 yX2_lowestFree, Cond.instanceMethod yX2_lowestFree, Cond.selects RX2 yX2_lowestFree yX2_lowestFree, Cond.code yX2_lowestFree cX2_lowestFree 3 (some .int), Cond.methodLink RX2 49 yX2_phaseOver, Cond.instanceMethod yX2_phaseOver, Cond.selects RX2 yX2_phaseOver yX2_phaseOver, Cond.code yX2_phaseOver cX2_phaseOver 4 (some .int), Cond.methodLink RX2 52 Lib.Math.max.name, Cond.static Lib.Math.max.name, Cond.initialized "java/lang/Math", Cond.code Lib.Math.max.name Lib.Math.max.code 2 (some .int), Cond.methodLink RX3 61 yX2_below, Cond.instanceMethod yX2_below, Cond.selects RX2 yX2_below yX2_below, Cond.code yX2_below cX2_below 2 (some .int), Cond.methodLink RX3 65 yJ6_bitCount_0f7a4, Cond.static yJ6_bitCount_0f7a4, Cond.initialized RJ6, Cond.code yJ6_bitCount_0f7a4 cJ6_bitCount_0f7a4 1 (some .int)]
def wsL_above_r4 : List Cond := [Cond.constant RJ6 265 (1431655765), Cond.constant RJ6 266 (858993459), Cond.constant RJ6 267 (252645135)]
def wsL_above : List Cond := .codeWith yL_above cL_above 5 (some .int) [(0, 10, 13, 19), (0, 10, 17, 13)] :: ((wsL_above_r1 ++ (wsL_above_r2 ++ (wsL_above_r3 ++ wsL_above_r4))) ++ wsX30 ++ wsX20 ++ (vx_atS RX3 41 "java/lang/IllegalStateException" ["java/lang/RuntimeException", "java/lang/Exception"]).filter goodWord ++ (vx_atS RX3 172 "java/lang/IndexOutOfBoundsException" ["java/lang/RuntimeException", "java/lang/Exception"]).filter goodWord)
def wsL_same_r1 : List Cond := [Cond.classLink RL 19 "java/lang/IndexOutOfBoundsException", Cond.classLink RL 13 "java/lang/IllegalStateException", Cond.methodLink RL 21 yX3_same, Cond.instanceMethod yX3_same, Cond.selects RX3 yX3_same yX3_same, Cond.initialized RX3, Cond.code yX3_same cX3_same 3 (some .int), Cond.classLink RX3 37 "java/lang/IllegalStateException", Cond.initialized "java/lang/IllegalStateException", Cond.fieldLink RX3 10 "CairnShells" "strata" "LCairnShells$Strata;", Cond.methodLink RX3 47 yX3_checkLayer, Cond.instanceMethod yX3_checkLayer, Cond.selects RX3 yX3_checkLayer yX3_checkLayer, Cond.code yX3_checkLayer cX3_checkLayer 2 none, Cond.methodLink RX3 33 yX2_size, Cond.instanceMethod yX2_size, Cond.selects RX2 yX2_size yX2_size, Cond.initialized RX2, Cond.code yX2_size cX2_size 1 (some .int), Cond.fieldLink RX2 27 "CairnShells$Strata" "layers" "I", Cond.methodLink RX3 114 yX3_checkIndex, Cond.static yX3_checkIndex, Cond.code yX3_checkIndex cX3_checkIndex 2 none, Cond.classLink RX3 168 "java/lang/IndexOutOfBoundsException"]
def wsL_same_r2 : List Cond := [Cond.initialized "java/lang/IndexOutOfBoundsException", Cond.methodLink RX3 70 yX2_isLater, Cond.instanceMethod yX2_isLater, Cond.selects RX2 yX2_isLater yX2_isLater, Cond.code yX2_isLater cX2_isLater 3 (some .boolean), Cond.fieldLink RX2 15 "CairnShells$Strata" "belows" "[I", Cond.static yX3_has, Cond.code yX3_has cX3_has 2 (some .boolean), Cond.methodLink RX3 75 yX2_join, Cond.instanceMethod yX2_join, Cond.selects RX2 yX2_join yX2_join, Cond.code yX2_join cX2_join 7 none, Cond.fieldLink RX2 9 "CairnShells$Strata" "alikes" "[I", Cond.fieldLink RX2 18 "CairnShells$Strata" "tops" "[I", Cond.methodLink RX2 41 yX2_link, Cond.instanceMethod yX2_link, Cond.selects RX2 yX2_link yX2_link, Cond.code yX2_link cX2_link 4 none, Cond.methodLink RX2 38 yX2_arrange, Cond.instanceMethod yX2_arrange, Cond.selects RX2 yX2_arrange yX2_arrange, Cond.code yX2_arrange cX2_arrange 4 none, Cond.fieldLink RX2 21 "CairnShells$Strata" "order" "[I", Cond.fieldLink RX2 24 "CairnShells$Strata" "phaseOf" "[I"]
def wsL_same_r3 : List Cond := [Cond.methodLink RX2 45 yX2_lowestFree, Cond.instanceMethod yX2_lowestFree, Cond.selects RX2 yX2_lowestFree yX2_lowestFree, Cond.code yX2_lowestFree cX2_lowestFree 3 (some .int), Cond.methodLink RX2 49 yX2_phaseOver, Cond.instanceMethod yX2_phaseOver, Cond.selects RX2 yX2_phaseOver yX2_phaseOver, Cond.code yX2_phaseOver cX2_phaseOver 4 (some .int), Cond.methodLink RX2 52 Lib.Math.max.name, Cond.static Lib.Math.max.name, Cond.initialized "java/lang/Math", Cond.code Lib.Math.max.name Lib.Math.max.code 2 (some .int), Cond.methodLink RX3 78 yX2_alike, Cond.instanceMethod yX2_alike, Cond.selects RX2 yX2_alike yX2_alike, Cond.code yX2_alike cX2_alike 2 (some .int), Cond.methodLink RX3 65 yJ6_bitCount_0f7a4, Cond.static yJ6_bitCount_0f7a4, Cond.initialized RJ6, Cond.code yJ6_bitCount_0f7a4 cJ6_bitCount_0f7a4 1 (some .int), Cond.constant RJ6 265 (1431655765), Cond.constant RJ6 266 (858993459), Cond.constant RJ6 267 (252645135)]
def wsL_same : List Cond := .codeWith yL_same cL_same 5 (some .int) [(0, 10, 13, 19), (0, 10, 17, 13)] :: ((wsL_same_r1 ++ (wsL_same_r2 ++ wsL_same_r3)) ++ wsX30 ++ wsX20 ++ (vx_atS RX3 41 "java/lang/IllegalStateException" ["java/lang/RuntimeException", "java/lang/Exception"]).filter goodWord ++ (vx_atS RX3 172 "java/lang/IndexOutOfBoundsException" ["java/lang/RuntimeException", "java/lang/Exception"]).filter goodWord)
def wsL_sift_r1 : List Cond := [Cond.classLink RL 19 "java/lang/IndexOutOfBoundsException", Cond.classLink RL 28 "java/lang/IllegalArgumentException", Cond.methodLink RL 24 yX3_sift, Cond.instanceMethod yX3_sift, Cond.selects RX3 yX3_sift yX3_sift, Cond.initialized RX3, Cond.code yX3_sift cX3_sift 4 (some .int), Cond.classLink RX3 84 "java/lang/IllegalArgumentException", Cond.initialized "java/lang/IllegalArgumentException", Cond.fieldLink RX3 19 "CairnShells" "sieve" "LCairnShells$Sieve;", Cond.methodLink RX3 47 yX3_checkLayer, Cond.instanceMethod yX3_checkLayer, Cond.selects RX3 yX3_checkLayer yX3_checkLayer, Cond.code yX3_checkLayer cX3_checkLayer 2 none, Cond.fieldLink RX3 10 "CairnShells" "strata" "LCairnShells$Strata;", Cond.methodLink RX3 33 yX2_size, Cond.instanceMethod yX2_size, Cond.selects RX2 yX2_size yX2_size, Cond.initialized RX2, Cond.code yX2_size cX2_size 1 (some .int), Cond.fieldLink RX2 27 "CairnShells$Strata" "layers" "I", Cond.methodLink RX3 114 yX3_checkIndex, Cond.static yX3_checkIndex, Cond.code yX3_checkIndex cX3_checkIndex 2 none]
def wsL_sift_r2 : List Cond := [Cond.classLink RX3 168 "java/lang/IndexOutOfBoundsException", Cond.initialized "java/lang/IndexOutOfBoundsException", Cond.methodLink RX3 81 yX3_checkKind, Cond.static yX3_checkKind, Cond.code yX3_checkKind cX3_checkKind 1 none, Cond.methodLink RX3 89 yX1_put, Cond.instanceMethod yX1_put, Cond.selects RX1 yX1_put yX1_put, Cond.initialized RX1, Cond.code yX1_put cX1_put 6 (some .int), Cond.fieldLink RX1 9 "CairnShells$Sieve" "many" "[I"]
def wsL_sift : List Cond := .codeWith yL_sift cL_sift 6 (some .int) [(0, 12, 15, 19), (0, 12, 19, 28)] :: ((wsL_sift_r1 ++ wsL_sift_r2) ++ wsX30 ++ wsX20 ++ wsX10 ++ (vx_atS RX3 88 "java/lang/IllegalArgumentException" ["java/lang/RuntimeException", "java/lang/Exception"]).filter goodWord ++ (vx_atS RX3 172 "java/lang/IndexOutOfBoundsException" ["java/lang/RuntimeException", "java/lang/Exception"]).filter goodWord)
def wsL_hearth_r1 : List Cond := [Cond.classLink RL 19 "java/lang/IndexOutOfBoundsException", Cond.classLink RL 28 "java/lang/IllegalArgumentException", Cond.methodLink RL 30 yX3_hearth, Cond.instanceMethod yX3_hearth, Cond.selects RX3 yX3_hearth yX3_hearth, Cond.initialized RX3, Cond.code yX3_hearth cX3_hearth 4 (some .int), Cond.classLink RX3 84 "java/lang/IllegalArgumentException", Cond.initialized "java/lang/IllegalArgumentException", Cond.fieldLink RX3 26 "CairnShells" "hearths" "LCairnShells$Hearths;", Cond.methodLink RX3 47 yX3_checkLayer, Cond.instanceMethod yX3_checkLayer, Cond.selects RX3 yX3_checkLayer yX3_checkLayer, Cond.code yX3_checkLayer cX3_checkLayer 2 none, Cond.fieldLink RX3 10 "CairnShells" "strata" "LCairnShells$Strata;", Cond.methodLink RX3 33 yX2_size, Cond.instanceMethod yX2_size, Cond.selects RX2 yX2_size yX2_size, Cond.initialized RX2, Cond.code yX2_size cX2_size 1 (some .int), Cond.fieldLink RX2 27 "CairnShells$Strata" "layers" "I", Cond.methodLink RX3 114 yX3_checkIndex, Cond.static yX3_checkIndex, Cond.code yX3_checkIndex cX3_checkIndex 2 none]
def wsL_hearth_r2 : List Cond := [Cond.classLink RX3 168 "java/lang/IndexOutOfBoundsException", Cond.initialized "java/lang/IndexOutOfBoundsException", Cond.methodLink RX3 95 yX0_put, Cond.instanceMethod yX0_put, Cond.selects RX0 yX0_put yX0_put, Cond.initialized RX0, Cond.code yX0_put cX0_put 4 none, Cond.fieldLink RX0 18 "CairnShells$Hearths" "burning" "I", Cond.fieldLink RX0 9 "CairnShells$Hearths" "first" "[I", Cond.fieldLink RX0 15 "CairnShells$Hearths" "last" "[I", Cond.methodLink RX3 98 yX3_firstYear, Cond.instanceMethod yX3_firstYear, Cond.selects RX3 yX3_firstYear yX3_firstYear, Cond.code yX3_firstYear cX3_firstYear 3 (some .int), Cond.methodLink RX3 78 yX2_alike, Cond.instanceMethod yX2_alike, Cond.selects RX2 yX2_alike yX2_alike, Cond.code yX2_alike cX2_alike 2 (some .int), Cond.fieldLink RX2 9 "CairnShells$Strata" "alikes" "[I", Cond.methodLink RX3 61 yX2_below, Cond.instanceMethod yX2_below, Cond.selects RX2 yX2_below yX2_below, Cond.code yX2_below cX2_below 2 (some .int), Cond.fieldLink RX2 15 "CairnShells$Strata" "belows" "[I"]
def wsL_hearth_r3 : List Cond := [Cond.methodLink RX3 199 yX0_greatestFirst, Cond.instanceMethod yX0_greatestFirst, Cond.selects RX0 yX0_greatestFirst yX0_greatestFirst, Cond.code yX0_greatestFirst cX0_greatestFirst 4 (some .int), Cond.methodLink RX0 32 Lib.Math.max.name, Cond.static Lib.Math.max.name, Cond.initialized "java/lang/Math", Cond.code Lib.Math.max.name Lib.Math.max.code 2 (some .int), Cond.static yX3_has, Cond.code yX3_has cX3_has 2 (some .boolean)]
def wsL_hearth : List Cond := .codeWith yL_hearth cL_hearth 6 (some .int) [(0, 12, 15, 19), (0, 12, 19, 28)] :: ((wsL_hearth_r1 ++ (wsL_hearth_r2 ++ wsL_hearth_r3)) ++ wsX30 ++ wsX20 ++ wsX00 ++ (vx_atS RX3 88 "java/lang/IllegalArgumentException" ["java/lang/RuntimeException", "java/lang/Exception"]).filter goodWord ++ (vx_atS RX3 172 "java/lang/IndexOutOfBoundsException" ["java/lang/RuntimeException", "java/lang/Exception"]).filter goodWord)
def wsL_clear_r1 : List Cond := [Cond.classLink RL 19 "java/lang/IndexOutOfBoundsException", Cond.classLink RL 13 "java/lang/IllegalStateException", Cond.methodLink RL 33 yX3_clear, Cond.instanceMethod yX3_clear, Cond.selects RX3 yX3_clear yX3_clear, Cond.initialized RX3, Cond.code yX3_clear cX3_clear 3 (some .int), Cond.classLink RX3 37 "java/lang/IllegalStateException", Cond.initialized "java/lang/IllegalStateException", Cond.fieldLink RX3 26 "CairnShells" "hearths" "LCairnShells$Hearths;", Cond.methodLink RX3 47 yX3_checkLayer, Cond.instanceMethod yX3_checkLayer, Cond.selects RX3 yX3_checkLayer yX3_checkLayer, Cond.code yX3_checkLayer cX3_checkLayer 2 none, Cond.fieldLink RX3 10 "CairnShells" "strata" "LCairnShells$Strata;", Cond.methodLink RX3 33 yX2_size, Cond.instanceMethod yX2_size, Cond.selects RX2 yX2_size yX2_size, Cond.initialized RX2, Cond.code yX2_size cX2_size 1 (some .int), Cond.fieldLink RX2 27 "CairnShells$Strata" "layers" "I", Cond.methodLink RX3 114 yX3_checkIndex, Cond.static yX3_checkIndex, Cond.code yX3_checkIndex cX3_checkIndex 2 none]
def wsL_clear_r2 : List Cond := [Cond.classLink RX3 168 "java/lang/IndexOutOfBoundsException", Cond.initialized "java/lang/IndexOutOfBoundsException", Cond.methodLink RX3 102 yX0_isAt, Cond.instanceMethod yX0_isAt, Cond.selects RX0 yX0_isAt yX0_isAt, Cond.initialized RX0, Cond.code yX0_isAt cX0_isAt 2 (some .boolean), Cond.fieldLink RX0 18 "CairnShells$Hearths" "burning" "I", Cond.static yX3_has, Cond.code yX3_has cX3_has 2 (some .boolean), Cond.methodLink RX3 108 yX0_firstAt, Cond.instanceMethod yX0_firstAt, Cond.selects RX0 yX0_firstAt yX0_firstAt, Cond.code yX0_firstAt cX0_firstAt 2 (some .int), Cond.fieldLink RX0 9 "CairnShells$Hearths" "first" "[I", Cond.methodLink RX3 111 yX0_take, Cond.instanceMethod yX0_take, Cond.selects RX0 yX0_take yX0_take, Cond.code yX0_take cX0_take 2 none, Cond.fieldLink RX0 15 "CairnShells$Hearths" "last" "[I"]
def wsL_clear : List Cond := .codeWith yL_clear cL_clear 4 (some .int) [(0, 9, 12, 19), (0, 9, 15, 13)] :: ((wsL_clear_r1 ++ wsL_clear_r2) ++ wsX30 ++ wsX20 ++ wsX00 ++ (vx_atS RX3 41 "java/lang/IllegalStateException" ["java/lang/RuntimeException", "java/lang/Exception"]).filter goodWord ++ (vx_atS RX3 172 "java/lang/IndexOutOfBoundsException" ["java/lang/RuntimeException", "java/lang/Exception"]).filter goodWord)
def wsL_later_r1 : List Cond := [Cond.classLink RL 19 "java/lang/IndexOutOfBoundsException", Cond.methodLink RL 37 yX3_later, Cond.instanceMethod yX3_later, Cond.selects RX3 yX3_later yX3_later, Cond.initialized RX3, Cond.code yX3_later cX3_later 3 (some .boolean), Cond.fieldLink RX3 10 "CairnShells" "strata" "LCairnShells$Strata;", Cond.methodLink RX3 47 yX3_checkLayer, Cond.instanceMethod yX3_checkLayer, Cond.selects RX3 yX3_checkLayer yX3_checkLayer, Cond.code yX3_checkLayer cX3_checkLayer 2 none, Cond.methodLink RX3 33 yX2_size, Cond.instanceMethod yX2_size, Cond.selects RX2 yX2_size yX2_size, Cond.initialized RX2, Cond.code yX2_size cX2_size 1 (some .int), Cond.fieldLink RX2 27 "CairnShells$Strata" "layers" "I", Cond.methodLink RX3 114 yX3_checkIndex, Cond.static yX3_checkIndex, Cond.code yX3_checkIndex cX3_checkIndex 2 none, Cond.classLink RX3 168 "java/lang/IndexOutOfBoundsException", Cond.initialized "java/lang/IndexOutOfBoundsException", Cond.methodLink RX3 70 yX2_isLater, Cond.instanceMethod yX2_isLater]
def wsL_later_r2 : List Cond := [Cond.selects RX2 yX2_isLater yX2_isLater, Cond.code yX2_isLater cX2_isLater 3 (some .boolean), Cond.fieldLink RX2 15 "CairnShells$Strata" "belows" "[I", Cond.static yX3_has, Cond.code yX3_has cX3_has 2 (some .boolean)]
def wsL_later : List Cond := .codeWith yL_later cL_later 5 (some .int) [(0, 17, 20, 19)] :: ((wsL_later_r1 ++ wsL_later_r2) ++ wsX30 ++ wsX20 ++ (vx_atS RX3 172 "java/lang/IndexOutOfBoundsException" ["java/lang/RuntimeException", "java/lang/Exception"]).filter goodWord)
def wsL_told_r1 : List Cond := [Cond.classLink RL 19 "java/lang/IndexOutOfBoundsException", Cond.methodLink RL 41 yX3_told, Cond.instanceMethod yX3_told, Cond.selects RX3 yX3_told yX3_told, Cond.initialized RX3, Cond.code yX3_told cX3_told 3 (some .int), Cond.methodLink RX3 47 yX3_checkLayer, Cond.instanceMethod yX3_checkLayer, Cond.selects RX3 yX3_checkLayer yX3_checkLayer, Cond.code yX3_checkLayer cX3_checkLayer 2 none, Cond.fieldLink RX3 10 "CairnShells" "strata" "LCairnShells$Strata;", Cond.methodLink RX3 33 yX2_size, Cond.instanceMethod yX2_size, Cond.selects RX2 yX2_size yX2_size, Cond.initialized RX2, Cond.code yX2_size cX2_size 1 (some .int), Cond.fieldLink RX2 27 "CairnShells$Strata" "layers" "I", Cond.methodLink RX3 114 yX3_checkIndex, Cond.static yX3_checkIndex, Cond.code yX3_checkIndex cX3_checkIndex 2 none, Cond.classLink RX3 168 "java/lang/IndexOutOfBoundsException", Cond.initialized "java/lang/IndexOutOfBoundsException", Cond.methodLink RX3 117 yX3_toldOf, Cond.instanceMethod yX3_toldOf]
def wsL_told_r2 : List Cond := [Cond.selects RX3 yX3_toldOf yX3_toldOf, Cond.code yX3_toldOf cX3_toldOf 3 (some .int), Cond.fieldLink RX3 26 "CairnShells" "hearths" "LCairnShells$Hearths;", Cond.methodLink RX3 98 yX3_firstYear, Cond.instanceMethod yX3_firstYear, Cond.selects RX3 yX3_firstYear yX3_firstYear, Cond.code yX3_firstYear cX3_firstYear 3 (some .int), Cond.methodLink RX3 78 yX2_alike, Cond.instanceMethod yX2_alike, Cond.selects RX2 yX2_alike yX2_alike, Cond.code yX2_alike cX2_alike 2 (some .int), Cond.fieldLink RX2 9 "CairnShells$Strata" "alikes" "[I", Cond.methodLink RX3 61 yX2_below, Cond.instanceMethod yX2_below, Cond.selects RX2 yX2_below yX2_below, Cond.code yX2_below cX2_below 2 (some .int), Cond.fieldLink RX2 15 "CairnShells$Strata" "belows" "[I", Cond.methodLink RX3 199 yX0_greatestFirst, Cond.instanceMethod yX0_greatestFirst, Cond.selects RX0 yX0_greatestFirst yX0_greatestFirst, Cond.initialized RX0, Cond.code yX0_greatestFirst cX0_greatestFirst 4 (some .int), Cond.fieldLink RX0 9 "CairnShells$Hearths" "first" "[I", Cond.methodLink RX0 32 Lib.Math.max.name]
def wsL_told_r3 : List Cond := [Cond.static Lib.Math.max.name, Cond.initialized "java/lang/Math", Cond.code Lib.Math.max.name Lib.Math.max.code 2 (some .int), Cond.static yX3_has, Cond.code yX3_has cX3_has 2 (some .boolean), Cond.methodLink RX3 173 yX3_lastYear, Cond.instanceMethod yX3_lastYear, Cond.selects RX3 yX3_lastYear yX3_lastYear, Cond.code yX3_lastYear cX3_lastYear 3 (some .int), Cond.methodLink RX3 127 yX2_onTop, Cond.instanceMethod yX2_onTop, Cond.selects RX2 yX2_onTop yX2_onTop, Cond.code yX2_onTop cX2_onTop 2 (some .int), Cond.fieldLink RX2 18 "CairnShells$Strata" "tops" "[I", Cond.methodLink RX3 202 yX0_leastLast, Cond.instanceMethod yX0_leastLast, Cond.selects RX0 yX0_leastLast yX0_leastLast, Cond.code yX0_leastLast cX0_leastLast 4 (some .int), Cond.fieldLink RX0 15 "CairnShells$Hearths" "last" "[I", Cond.methodLink RX0 38 Lib.Math.min.name, Cond.static Lib.Math.min.name, Cond.code Lib.Math.min.name Lib.Math.min.code 2 (some .int), Cond.methodLink RX3 143 yX3_isDoubtful, Cond.instanceMethod yX3_isDoubtful]
def wsL_told_r4 : List Cond := [Cond.selects RX3 yX3_isDoubtful yX3_isDoubtful, Cond.code yX3_isDoubtful cX3_isDoubtful 3 (some .boolean), Cond.methodLink RX3 153 yX2_phase, Cond.instanceMethod yX2_phase, Cond.selects RX2 yX2_phase yX2_phase, Cond.code yX2_phase cX2_phase 2 (some .int), Cond.fieldLink RX2 24 "CairnShells$Strata" "phaseOf" "[I", Cond.methodLink RX3 65 yJ6_bitCount_0f7a4, Cond.static yJ6_bitCount_0f7a4, Cond.initialized RJ6, Cond.code yJ6_bitCount_0f7a4 cJ6_bitCount_0f7a4 1 (some .int), Cond.constant RJ6 265 (1431655765), Cond.constant RJ6 266 (858993459), Cond.constant RJ6 267 (252645135), Cond.methodLink RX3 176 yX3_season, Cond.instanceMethod yX3_season, Cond.selects RX3 yX3_season yX3_season, Cond.code yX3_season cX3_season 10 (some .int), Cond.methodLink RX3 121 yX3_findsOf, Cond.instanceMethod yX3_findsOf, Cond.selects RX3 yX3_findsOf yX3_findsOf, Cond.code yX3_findsOf cX3_findsOf 3 (some .int), Cond.fieldLink RX3 19 "CairnShells" "sieve" "LCairnShells$Sieve;", Cond.methodLink RX3 192 yX1_sum]
def wsL_told_r5 : List Cond := [Cond.instanceMethod yX1_sum, Cond.selects RX1 yX1_sum yX1_sum, Cond.initialized RX1, Cond.code yX1_sum cX1_sum 5 (some .int), Cond.fieldLink RX1 9 "CairnShells$Sieve" "many" "[I", Cond.methodLink RX3 195 yX3_weight, Cond.static yX3_weight, Cond.code yX3_weight cX3_weight 5 (some .int), Cond.methodLink RX3 102 yX0_isAt, Cond.instanceMethod yX0_isAt, Cond.selects RX0 yX0_isAt yX0_isAt, Cond.code yX0_isAt cX0_isAt 2 (some .boolean), Cond.fieldLink RX0 18 "CairnShells$Hearths" "burning" "I"]
def wsL_told : List Cond := .codeWith yL_told cL_told 5 (some .int) [(0, 10, 13, 19)] :: ((wsL_told_r1 ++ (wsL_told_r2 ++ (wsL_told_r3 ++ (wsL_told_r4 ++ wsL_told_r5)))) ++ wsX30 ++ wsX20 ++ wsX00 ++ wsX10 ++ (vx_atS RX3 172 "java/lang/IndexOutOfBoundsException" ["java/lang/RuntimeException", "java/lang/Exception"]).filter goodWord)
def wsL_finds_r1 : List Cond := [Cond.classLink RL 19 "java/lang/IndexOutOfBoundsException", Cond.methodLink RL 44 yX3_finds, Cond.instanceMethod yX3_finds, Cond.selects RX3 yX3_finds yX3_finds, Cond.initialized RX3, Cond.code yX3_finds cX3_finds 3 (some .int), Cond.methodLink RX3 47 yX3_checkLayer, Cond.instanceMethod yX3_checkLayer, Cond.selects RX3 yX3_checkLayer yX3_checkLayer, Cond.code yX3_checkLayer cX3_checkLayer 2 none, Cond.fieldLink RX3 10 "CairnShells" "strata" "LCairnShells$Strata;", Cond.methodLink RX3 33 yX2_size, Cond.instanceMethod yX2_size, Cond.selects RX2 yX2_size yX2_size, Cond.initialized RX2, Cond.code yX2_size cX2_size 1 (some .int), Cond.fieldLink RX2 27 "CairnShells$Strata" "layers" "I", Cond.methodLink RX3 114 yX3_checkIndex, Cond.static yX3_checkIndex, Cond.code yX3_checkIndex cX3_checkIndex 2 none, Cond.classLink RX3 168 "java/lang/IndexOutOfBoundsException", Cond.initialized "java/lang/IndexOutOfBoundsException", Cond.methodLink RX3 81 yX3_checkKind, Cond.static yX3_checkKind]
def wsL_finds_r2 : List Cond := [Cond.code yX3_checkKind cX3_checkKind 1 none, Cond.methodLink RX3 121 yX3_findsOf, Cond.instanceMethod yX3_findsOf, Cond.selects RX3 yX3_findsOf yX3_findsOf, Cond.code yX3_findsOf cX3_findsOf 3 (some .int), Cond.fieldLink RX3 19 "CairnShells" "sieve" "LCairnShells$Sieve;", Cond.methodLink RX3 78 yX2_alike, Cond.instanceMethod yX2_alike, Cond.selects RX2 yX2_alike yX2_alike, Cond.code yX2_alike cX2_alike 2 (some .int), Cond.fieldLink RX2 9 "CairnShells$Strata" "alikes" "[I", Cond.methodLink RX3 192 yX1_sum, Cond.instanceMethod yX1_sum, Cond.selects RX1 yX1_sum yX1_sum, Cond.initialized RX1, Cond.code yX1_sum cX1_sum 5 (some .int), Cond.fieldLink RX1 9 "CairnShells$Sieve" "many" "[I", Cond.static yX3_has, Cond.code yX3_has cX3_has 2 (some .boolean)]
def wsL_finds : List Cond := .codeWith yL_finds cL_finds 5 (some .int) [(0, 10, 13, 19)] :: ((wsL_finds_r1 ++ wsL_finds_r2) ++ wsX30 ++ wsX20 ++ wsX10 ++ (vx_atS RX3 172 "java/lang/IndexOutOfBoundsException" ["java/lang/RuntimeException", "java/lang/Exception"]).filter goodWord)
def wsL_order : List Cond := .codeWith yL_order cL_order 4 (some .int) [(0, 9, 12, 19)] :: ([.classLink RL 19 "java/lang/IndexOutOfBoundsException", .methodLink RL 47 yX3_order, .instanceMethod yX3_order, .selects RX3 yX3_order yX3_order, .initialized RX3, .code yX3_order cX3_order 2 (some .int), .fieldLink RX3 10 "CairnShells" "strata" "LCairnShells$Strata;", .methodLink RX3 33 yX2_size, .instanceMethod yX2_size, .selects RX2 yX2_size yX2_size, .initialized RX2, .code yX2_size cX2_size 1 (some .int), .fieldLink RX2 27 "CairnShells$Strata" "layers" "I", .methodLink RX3 114 yX3_checkIndex, .static yX3_checkIndex, .code yX3_checkIndex cX3_checkIndex 2 none, .classLink RX3 168 "java/lang/IndexOutOfBoundsException", .initialized "java/lang/IndexOutOfBoundsException", .methodLink RX3 124 yX2_placed, .instanceMethod yX2_placed, .selects RX2 yX2_placed yX2_placed, .code yX2_placed cX2_placed 2 (some .int), .fieldLink RX2 21 "CairnShells$Strata" "order" "[I"] ++ wsX30 ++ wsX20 ++ (vx_atS RX3 172 "java/lang/IndexOutOfBoundsException" ["java/lang/RuntimeException", "java/lang/Exception"]).filter goodWord)
def wsL_between_r1 : List Cond := [Cond.classLink RL 19 "java/lang/IndexOutOfBoundsException", Cond.methodLink RL 50 yX3_between, Cond.instanceMethod yX3_between, Cond.selects RX3 yX3_between yX3_between, Cond.initialized RX3, Cond.code yX3_between cX3_between 3 (some .int), Cond.fieldLink RX3 10 "CairnShells" "strata" "LCairnShells$Strata;", Cond.methodLink RX3 47 yX3_checkLayer, Cond.instanceMethod yX3_checkLayer, Cond.selects RX3 yX3_checkLayer yX3_checkLayer, Cond.code yX3_checkLayer cX3_checkLayer 2 none, Cond.methodLink RX3 33 yX2_size, Cond.instanceMethod yX2_size, Cond.selects RX2 yX2_size yX2_size, Cond.initialized RX2, Cond.code yX2_size cX2_size 1 (some .int), Cond.fieldLink RX2 27 "CairnShells$Strata" "layers" "I", Cond.methodLink RX3 114 yX3_checkIndex, Cond.static yX3_checkIndex, Cond.code yX3_checkIndex cX3_checkIndex 2 none, Cond.classLink RX3 168 "java/lang/IndexOutOfBoundsException", Cond.initialized "java/lang/IndexOutOfBoundsException", Cond.methodLink RX3 70 yX2_isLater, Cond.instanceMethod yX2_isLater]
def wsL_between_r2 : List Cond := [Cond.selects RX2 yX2_isLater yX2_isLater, Cond.code yX2_isLater cX2_isLater 3 (some .boolean), Cond.fieldLink RX2 15 "CairnShells$Strata" "belows" "[I", Cond.static yX3_has, Cond.code yX3_has cX3_has 2 (some .boolean), Cond.methodLink RX3 61 yX2_below, Cond.instanceMethod yX2_below, Cond.selects RX2 yX2_below yX2_below, Cond.code yX2_below cX2_below 2 (some .int), Cond.methodLink RX3 127 yX2_onTop, Cond.instanceMethod yX2_onTop, Cond.selects RX2 yX2_onTop yX2_onTop, Cond.code yX2_onTop cX2_onTop 2 (some .int), Cond.fieldLink RX2 18 "CairnShells$Strata" "tops" "[I", Cond.methodLink RX3 65 yJ6_bitCount_0f7a4, Cond.static yJ6_bitCount_0f7a4, Cond.initialized RJ6, Cond.code yJ6_bitCount_0f7a4 cJ6_bitCount_0f7a4 1 (some .int), Cond.constant RJ6 265 (1431655765), Cond.constant RJ6 266 (858993459), Cond.constant RJ6 267 (252645135)]
def wsL_between : List Cond := .codeWith yL_between cL_between 5 (some .int) [(0, 10, 13, 19)] :: ((wsL_between_r1 ++ wsL_between_r2) ++ wsX30 ++ wsX20 ++ (vx_atS RX3 172 "java/lang/IndexOutOfBoundsException" ["java/lang/RuntimeException", "java/lang/Exception"]).filter goodWord)
def wsL_count_r1 : List Cond := [Cond.classLink RL 19 "java/lang/IndexOutOfBoundsException", Cond.methodLink RL 53 yX3_count, Cond.instanceMethod yX3_count, Cond.selects RX3 yX3_count yX3_count, Cond.initialized RX3, Cond.code yX3_count cX3_count 2 (some .int), Cond.methodLink RX3 114 yX3_checkIndex, Cond.static yX3_checkIndex, Cond.code yX3_checkIndex cX3_checkIndex 2 none, Cond.classLink RX3 168 "java/lang/IndexOutOfBoundsException", Cond.initialized "java/lang/IndexOutOfBoundsException", Cond.methodLink RX3 130 yX3_counted, Cond.instanceMethod yX3_counted, Cond.selects RX3 yX3_counted yX3_counted, Cond.code yX3_counted cX3_counted 2 (some .int), Cond.fieldLink RX3 10 "CairnShells" "strata" "LCairnShells$Strata;", Cond.fieldLink RX3 26 "CairnShells" "hearths" "LCairnShells$Hearths;", Cond.fieldLink RX3 19 "CairnShells" "sieve" "LCairnShells$Sieve;", Cond.methodLink RX3 33 yX2_size, Cond.instanceMethod yX2_size, Cond.selects RX2 yX2_size yX2_size, Cond.initialized RX2, Cond.code yX2_size cX2_size 1 (some .int), Cond.fieldLink RX2 27 "CairnShells$Strata" "layers" "I"]
def wsL_count_r2 : List Cond := [Cond.methodLink RX3 179 yX2_phases, Cond.instanceMethod yX2_phases, Cond.selects RX2 yX2_phases yX2_phases, Cond.code yX2_phases cX2_phases 3 (some .int), Cond.fieldLink RX2 24 "CairnShells$Strata" "phaseOf" "[I", Cond.methodLink RX2 52 Lib.Math.max.name, Cond.static Lib.Math.max.name, Cond.initialized "java/lang/Math", Cond.code Lib.Math.max.name Lib.Math.max.code 2 (some .int), Cond.methodLink RX3 133 yX3_doubtfulLayers, Cond.instanceMethod yX3_doubtfulLayers, Cond.selects RX3 yX3_doubtfulLayers yX3_doubtfulLayers, Cond.code yX3_doubtfulLayers cX3_doubtfulLayers 4 (some .int), Cond.methodLink RX3 143 yX3_isDoubtful, Cond.instanceMethod yX3_isDoubtful, Cond.selects RX3 yX3_isDoubtful yX3_isDoubtful, Cond.code yX3_isDoubtful cX3_isDoubtful 3 (some .boolean), Cond.methodLink RX3 98 yX3_firstYear, Cond.instanceMethod yX3_firstYear, Cond.selects RX3 yX3_firstYear yX3_firstYear, Cond.code yX3_firstYear cX3_firstYear 3 (some .int), Cond.methodLink RX3 78 yX2_alike, Cond.instanceMethod yX2_alike, Cond.selects RX2 yX2_alike yX2_alike]
def wsL_count_r3 : List Cond := [Cond.code yX2_alike cX2_alike 2 (some .int), Cond.fieldLink RX2 9 "CairnShells$Strata" "alikes" "[I", Cond.methodLink RX3 61 yX2_below, Cond.instanceMethod yX2_below, Cond.selects RX2 yX2_below yX2_below, Cond.code yX2_below cX2_below 2 (some .int), Cond.fieldLink RX2 15 "CairnShells$Strata" "belows" "[I", Cond.methodLink RX3 199 yX0_greatestFirst, Cond.instanceMethod yX0_greatestFirst, Cond.selects RX0 yX0_greatestFirst yX0_greatestFirst, Cond.initialized RX0, Cond.code yX0_greatestFirst cX0_greatestFirst 4 (some .int), Cond.fieldLink RX0 9 "CairnShells$Hearths" "first" "[I", Cond.methodLink RX0 32 Lib.Math.max.name, Cond.static yX3_has, Cond.code yX3_has cX3_has 2 (some .boolean), Cond.methodLink RX3 173 yX3_lastYear, Cond.instanceMethod yX3_lastYear, Cond.selects RX3 yX3_lastYear yX3_lastYear, Cond.code yX3_lastYear cX3_lastYear 3 (some .int), Cond.methodLink RX3 127 yX2_onTop, Cond.instanceMethod yX2_onTop, Cond.selects RX2 yX2_onTop yX2_onTop, Cond.code yX2_onTop cX2_onTop 2 (some .int)]
def wsL_count_r4 : List Cond := [Cond.fieldLink RX2 18 "CairnShells$Strata" "tops" "[I", Cond.methodLink RX3 202 yX0_leastLast, Cond.instanceMethod yX0_leastLast, Cond.selects RX0 yX0_leastLast yX0_leastLast, Cond.code yX0_leastLast cX0_leastLast 4 (some .int), Cond.fieldLink RX0 15 "CairnShells$Hearths" "last" "[I", Cond.methodLink RX0 38 Lib.Math.min.name, Cond.static Lib.Math.min.name, Cond.code Lib.Math.min.name Lib.Math.min.code 2 (some .int), Cond.methodLink RX3 182 yX0_size, Cond.instanceMethod yX0_size, Cond.selects RX0 yX0_size yX0_size, Cond.code yX0_size cX0_size 1 (some .int), Cond.fieldLink RX0 18 "CairnShells$Hearths" "burning" "I", Cond.methodLink RX0 22 yJ6_bitCount_0f7a4, Cond.static yJ6_bitCount_0f7a4, Cond.initialized RJ6, Cond.code yJ6_bitCount_0f7a4 cJ6_bitCount_0f7a4 1 (some .int), Cond.constant RJ6 265 (1431655765), Cond.constant RJ6 266 (858993459), Cond.constant RJ6 267 (252645135), Cond.methodLink RX3 183 yX2_pairs, Cond.instanceMethod yX2_pairs, Cond.selects RX2 yX2_pairs yX2_pairs]
def wsL_count_r5 : List Cond := [Cond.code yX2_pairs cX2_pairs 3 (some .int), Cond.methodLink RX2 58 yJ6_bitCount_0f7a4, Cond.methodLink RX3 186 yX2_sorts, Cond.instanceMethod yX2_sorts, Cond.selects RX2 yX2_sorts yX2_sorts, Cond.code yX2_sorts cX2_sorts 3 (some .int), Cond.methodLink RX3 189 yX1_all, Cond.instanceMethod yX1_all, Cond.selects RX1 yX1_all yX1_all, Cond.initialized RX1, Cond.code yX1_all cX1_all 3 (some .int), Cond.fieldLink RX1 9 "CairnShells$Sieve" "many" "[I"]
def wsL_count : List Cond := .codeWith yL_count cL_count 4 (some .int) [(0, 9, 12, 19)] :: ((wsL_count_r1 ++ (wsL_count_r2 ++ (wsL_count_r3 ++ (wsL_count_r4 ++ wsL_count_r5)))) ++ wsX30 ++ wsX20 ++ wsX00 ++ wsX10 ++ (vx_atS RX3 172 "java/lang/IndexOutOfBoundsException" ["java/lang/RuntimeException", "java/lang/Exception"]).filter goodWord)
def wsL_narrows_r1 : List Cond := [Cond.classLink RL 19 "java/lang/IndexOutOfBoundsException", Cond.classLink RL 28 "java/lang/IllegalArgumentException", Cond.methodLink RL 56 yX3_narrows, Cond.instanceMethod yX3_narrows, Cond.selects RX3 yX3_narrows yX3_narrows, Cond.initialized RX3, Cond.code yX3_narrows cX3_narrows 5 (some .int), Cond.classLink RX3 84 "java/lang/IllegalArgumentException", Cond.initialized "java/lang/IllegalArgumentException", Cond.fieldLink RX3 30 "CairnShells" "trial" "LCairnShells$Hearths;", Cond.fieldLink RX3 26 "CairnShells" "hearths" "LCairnShells$Hearths;", Cond.fieldLink RX3 10 "CairnShells" "strata" "LCairnShells$Strata;", Cond.methodLink RX3 47 yX3_checkLayer, Cond.instanceMethod yX3_checkLayer, Cond.selects RX3 yX3_checkLayer yX3_checkLayer, Cond.code yX3_checkLayer cX3_checkLayer 2 none, Cond.methodLink RX3 33 yX2_size, Cond.instanceMethod yX2_size, Cond.selects RX2 yX2_size yX2_size, Cond.initialized RX2, Cond.code yX2_size cX2_size 1 (some .int), Cond.fieldLink RX2 27 "CairnShells$Strata" "layers" "I", Cond.methodLink RX3 114 yX3_checkIndex, Cond.static yX3_checkIndex]
def wsL_narrows_r2 : List Cond := [Cond.code yX3_checkIndex cX3_checkIndex 2 none, Cond.classLink RX3 168 "java/lang/IndexOutOfBoundsException", Cond.initialized "java/lang/IndexOutOfBoundsException", Cond.methodLink RX3 137 yX0_copy, Cond.instanceMethod yX0_copy, Cond.selects RX0 yX0_copy yX0_copy, Cond.initialized RX0, Cond.code yX0_copy cX0_copy 3 none, Cond.fieldLink RX0 18 "CairnShells$Hearths" "burning" "I", Cond.fieldLink RX0 9 "CairnShells$Hearths" "first" "[I", Cond.fieldLink RX0 15 "CairnShells$Hearths" "last" "[I", Cond.methodLink RX3 95 yX0_put, Cond.instanceMethod yX0_put, Cond.selects RX0 yX0_put yX0_put, Cond.code yX0_put cX0_put 4 none, Cond.methodLink RX3 143 yX3_isDoubtful, Cond.instanceMethod yX3_isDoubtful, Cond.selects RX3 yX3_isDoubtful yX3_isDoubtful, Cond.code yX3_isDoubtful cX3_isDoubtful 3 (some .boolean), Cond.methodLink RX3 98 yX3_firstYear, Cond.instanceMethod yX3_firstYear, Cond.selects RX3 yX3_firstYear yX3_firstYear, Cond.code yX3_firstYear cX3_firstYear 3 (some .int), Cond.methodLink RX3 78 yX2_alike]
def wsL_narrows_r3 : List Cond := [Cond.instanceMethod yX2_alike, Cond.selects RX2 yX2_alike yX2_alike, Cond.code yX2_alike cX2_alike 2 (some .int), Cond.fieldLink RX2 9 "CairnShells$Strata" "alikes" "[I", Cond.methodLink RX3 61 yX2_below, Cond.instanceMethod yX2_below, Cond.selects RX2 yX2_below yX2_below, Cond.code yX2_below cX2_below 2 (some .int), Cond.fieldLink RX2 15 "CairnShells$Strata" "belows" "[I", Cond.methodLink RX3 199 yX0_greatestFirst, Cond.instanceMethod yX0_greatestFirst, Cond.selects RX0 yX0_greatestFirst yX0_greatestFirst, Cond.code yX0_greatestFirst cX0_greatestFirst 4 (some .int), Cond.methodLink RX0 32 Lib.Math.max.name, Cond.static Lib.Math.max.name, Cond.initialized "java/lang/Math", Cond.code Lib.Math.max.name Lib.Math.max.code 2 (some .int), Cond.static yX3_has, Cond.code yX3_has cX3_has 2 (some .boolean), Cond.methodLink RX3 173 yX3_lastYear, Cond.instanceMethod yX3_lastYear, Cond.selects RX3 yX3_lastYear yX3_lastYear, Cond.code yX3_lastYear cX3_lastYear 3 (some .int), Cond.methodLink RX3 127 yX2_onTop]
def wsL_narrows_r4 : List Cond := [Cond.instanceMethod yX2_onTop, Cond.selects RX2 yX2_onTop yX2_onTop, Cond.code yX2_onTop cX2_onTop 2 (some .int), Cond.fieldLink RX2 18 "CairnShells$Strata" "tops" "[I", Cond.methodLink RX3 202 yX0_leastLast, Cond.instanceMethod yX0_leastLast, Cond.selects RX0 yX0_leastLast yX0_leastLast, Cond.code yX0_leastLast cX0_leastLast 4 (some .int), Cond.methodLink RX0 38 Lib.Math.min.name, Cond.static Lib.Math.min.name, Cond.code Lib.Math.min.name Lib.Math.min.code 2 (some .int), Cond.methodLink RX3 147 yX3_span, Cond.instanceMethod yX3_span, Cond.selects RX3 yX3_span yX3_span, Cond.code yX3_span cX3_span 3 (some .int)]
def wsL_narrows : List Cond := .codeWith yL_narrows cL_narrows 5 (some .int) [(0, 10, 13, 19), (0, 10, 17, 28)] :: ((wsL_narrows_r1 ++ (wsL_narrows_r2 ++ (wsL_narrows_r3 ++ wsL_narrows_r4))) ++ wsX30 ++ wsX20 ++ wsX00 ++ (vx_atS RX3 88 "java/lang/IllegalArgumentException" ["java/lang/RuntimeException", "java/lang/Exception"]).filter goodWord ++ (vx_atS RX3 172 "java/lang/IndexOutOfBoundsException" ["java/lang/RuntimeException", "java/lang/Exception"]).filter goodWord)
def wsL_tells_r1 : List Cond := [Cond.classLink RL 19 "java/lang/IndexOutOfBoundsException", Cond.methodLink RL 59 yX3_tells, Cond.instanceMethod yX3_tells, Cond.selects RX3 yX3_tells yX3_tells, Cond.initialized RX3, Cond.code yX3_tells cX3_tells 3 (some .int), Cond.fieldLink RX3 10 "CairnShells" "strata" "LCairnShells$Strata;", Cond.methodLink RX3 47 yX3_checkLayer, Cond.instanceMethod yX3_checkLayer, Cond.selects RX3 yX3_checkLayer yX3_checkLayer, Cond.code yX3_checkLayer cX3_checkLayer 2 none, Cond.methodLink RX3 33 yX2_size, Cond.instanceMethod yX2_size, Cond.selects RX2 yX2_size yX2_size, Cond.initialized RX2, Cond.code yX2_size cX2_size 1 (some .int), Cond.fieldLink RX2 27 "CairnShells$Strata" "layers" "I", Cond.methodLink RX3 114 yX3_checkIndex, Cond.static yX3_checkIndex, Cond.code yX3_checkIndex cX3_checkIndex 2 none, Cond.classLink RX3 168 "java/lang/IndexOutOfBoundsException", Cond.initialized "java/lang/IndexOutOfBoundsException", Cond.methodLink RX3 51 yX2_refusesAbove, Cond.instanceMethod yX2_refusesAbove]
def wsL_tells_r2 : List Cond := [Cond.selects RX2 yX2_refusesAbove yX2_refusesAbove, Cond.code yX2_refusesAbove cX2_refusesAbove 3 (some .boolean), Cond.fieldLink RX2 9 "CairnShells$Strata" "alikes" "[I", Cond.static yX3_has, Cond.code yX3_has cX3_has 2 (some .boolean), Cond.methodLink RX2 35 yX2_isLater, Cond.instanceMethod yX2_isLater, Cond.selects RX2 yX2_isLater yX2_isLater, Cond.code yX2_isLater cX2_isLater 3 (some .boolean), Cond.fieldLink RX2 15 "CairnShells$Strata" "belows" "[I", Cond.methodLink RX3 150 yX2_pairsMore, Cond.instanceMethod yX2_pairsMore, Cond.selects RX2 yX2_pairsMore yX2_pairsMore, Cond.code yX2_pairsMore cX2_pairsMore 7 (some .int), Cond.fieldLink RX2 18 "CairnShells$Strata" "tops" "[I", Cond.methodLink RX2 58 yJ6_bitCount_0f7a4, Cond.static yJ6_bitCount_0f7a4, Cond.initialized RJ6, Cond.code yJ6_bitCount_0f7a4 cJ6_bitCount_0f7a4 1 (some .int), Cond.constant RJ6 265 (1431655765), Cond.constant RJ6 266 (858993459), Cond.constant RJ6 267 (252645135)]
def wsL_tells : List Cond := .codeWith yL_tells cL_tells 5 (some .int) [(0, 10, 13, 19)] :: ((wsL_tells_r1 ++ wsL_tells_r2) ++ wsX30 ++ wsX20 ++ (vx_atS RX3 172 "java/lang/IndexOutOfBoundsException" ["java/lang/RuntimeException", "java/lang/Exception"]).filter goodWord)
def wsL_law0_r1 : List Cond := [Cond.classLink RL 8 RX3, Cond.instantiable RX3 4, Cond.initialized RX3, Cond.classLink RL 63 RX4, Cond.instantiable RX4 7, Cond.initialized RX4, Cond.arrayClass .long, Cond.methodLink RL 62 yX3_init, Cond.instanceMethod yX3_init, Cond.code yX3_init cX3_init 1 none, Cond.methodLink RX3 1 objectInit, Cond.instanceMethod objectInit, Cond.code objectInit ⟨#[0xb1]⟩ 1 none, Cond.classLink RX3 7 RX2, Cond.instantiable RX2 6, Cond.initialized RX2, Cond.fieldLink RX3 10 "CairnShells" "strata" "LCairnShells$Strata;", Cond.classLink RX3 16 RX1, Cond.instantiable RX1 1, Cond.initialized RX1, Cond.fieldLink RX3 19 "CairnShells" "sieve" "LCairnShells$Sieve;", Cond.classLink RX3 23 RX0, Cond.instantiable RX0 3, Cond.initialized RX0]
def wsL_law0_r2 : List Cond := [Cond.fieldLink RX3 26 "CairnShells" "hearths" "LCairnShells$Hearths;", Cond.fieldLink RX3 30 "CairnShells" "trial" "LCairnShells$Hearths;", Cond.instanceMethod yX2_init, Cond.code yX2_init cX2_init 1 none, Cond.methodLink RX2 3 objectInit, Cond.arrayClass .int, Cond.fieldLink RX2 9 "CairnShells$Strata" "alikes" "[I", Cond.fieldLink RX2 15 "CairnShells$Strata" "belows" "[I", Cond.fieldLink RX2 18 "CairnShells$Strata" "tops" "[I", Cond.fieldLink RX2 21 "CairnShells$Strata" "order" "[I", Cond.fieldLink RX2 24 "CairnShells$Strata" "phaseOf" "[I", Cond.instanceMethod yX1_init, Cond.code yX1_init cX1_init 1 none, Cond.methodLink RX1 3 objectInit, Cond.fieldLink RX1 9 "CairnShells$Sieve" "many" "[I", Cond.methodLink RX3 25 yX0_init, Cond.instanceMethod yX0_init, Cond.code yX0_init cX0_init 2 none, Cond.methodLink RX0 3 objectInit, Cond.fieldLink RX0 9 "CairnShells$Hearths" "first" "[I", Cond.fieldLink RX0 15 "CairnShells$Hearths" "last" "[I", Cond.methodLink RL 65 yX4_init, Cond.instanceMethod yX4_init, Cond.code yX4_init cX4_init 1 none]
def wsL_law0_r3 : List Cond := [Cond.methodLink RX4 1 objectInit, Cond.fieldLink RX4 9 "CairnShellsModel" "alike" "[I", Cond.fieldLink RX4 13 "CairnShellsModel" "beneath" "[I", Cond.fieldLink RX4 16 "CairnShellsModel" "sifted" "[I", Cond.fieldLink RX4 19 "CairnShellsModel" "froms" "[I", Cond.fieldLink RX4 22 "CairnShellsModel" "tos" "[I", Cond.methodLink RL 66 yL_find, Cond.static yL_find, Cond.initialized RL, Cond.codeWith yL_find cL_find 3 (some .int) [(0, 8, 11, 13)], Cond.classLink RL 13 "java/lang/IllegalStateException", Cond.methodLink RL 7 yX3_find, Cond.instanceMethod yX3_find, Cond.selects RX3 yX3_find yX3_find, Cond.code yX3_find cX3_find 1 (some .int), Cond.classLink RX3 37 "java/lang/IllegalStateException", Cond.initialized "java/lang/IllegalStateException", Cond.methodLink RX3 33 yX2_size, Cond.instanceMethod yX2_size, Cond.selects RX2 yX2_size yX2_size, Cond.code yX2_size cX2_size 1 (some .int), Cond.fieldLink RX2 27 "CairnShells$Strata" "layers" "I", Cond.methodLink RX3 44 yX2_addLayer, Cond.instanceMethod yX2_addLayer]
def wsL_law0_r4 : List Cond := [Cond.selects RX2 yX2_addLayer yX2_addLayer, Cond.code yX2_addLayer cX2_addLayer 2 (some .int), Cond.methodLink RX2 38 yX2_arrange, Cond.instanceMethod yX2_arrange, Cond.selects RX2 yX2_arrange yX2_arrange, Cond.code yX2_arrange cX2_arrange 4 none, Cond.methodLink RX2 45 yX2_lowestFree, Cond.instanceMethod yX2_lowestFree, Cond.selects RX2 yX2_lowestFree yX2_lowestFree, Cond.code yX2_lowestFree cX2_lowestFree 3 (some .int), Cond.static yX3_has, Cond.code yX3_has cX3_has 2 (some .boolean), Cond.methodLink RX2 49 yX2_phaseOver, Cond.instanceMethod yX2_phaseOver, Cond.selects RX2 yX2_phaseOver yX2_phaseOver, Cond.code yX2_phaseOver cX2_phaseOver 4 (some .int), Cond.methodLink RX2 52 Lib.Math.max.name, Cond.static Lib.Math.max.name, Cond.initialized "java/lang/Math", Cond.code Lib.Math.max.name Lib.Math.max.code 2 (some .int), Cond.methodLink RL 71 yX4_find, Cond.instanceMethod yX4_find, Cond.selects RX4 yX4_find yX4_find, Cond.code yX4_find cX4_find 1 (some .int)]
def wsL_law0_r5 : List Cond := [Cond.fieldLink RX4 25 "CairnShellsModel" "thrown" "I", Cond.fieldLink RX4 29 "CairnShellsModel" "layers" "I", Cond.methodLink RX4 36 yX4_fail, Cond.instanceMethod yX4_fail, Cond.selects RX4 yX4_fail yX4_fail, Cond.code yX4_fail cX4_fail 2 (some .int), Cond.methodLink RL 72 yX4_thrown, Cond.instanceMethod yX4_thrown, Cond.selects RX4 yX4_thrown yX4_thrown, Cond.code yX4_thrown cX4_thrown 1 (some .int), Cond.methodLink RL 75 yL_above, Cond.static yL_above, Cond.codeWith yL_above cL_above 5 (some .int) [(0, 10, 13, 19), (0, 10, 17, 13)], Cond.classLink RL 19 "java/lang/IndexOutOfBoundsException", Cond.methodLink RL 15 yX3_above, Cond.instanceMethod yX3_above, Cond.selects RX3 yX3_above yX3_above, Cond.code yX3_above cX3_above 3 (some .int), Cond.methodLink RX3 47 yX3_checkLayer, Cond.instanceMethod yX3_checkLayer, Cond.selects RX3 yX3_checkLayer yX3_checkLayer, Cond.code yX3_checkLayer cX3_checkLayer 2 none, Cond.methodLink RX3 114 yX3_checkIndex, Cond.static yX3_checkIndex]
def wsL_law0_r6 : List Cond := [Cond.code yX3_checkIndex cX3_checkIndex 2 none, Cond.classLink RX3 168 "java/lang/IndexOutOfBoundsException", Cond.initialized "java/lang/IndexOutOfBoundsException", Cond.methodLink RX3 51 yX2_refusesAbove, Cond.instanceMethod yX2_refusesAbove, Cond.selects RX2 yX2_refusesAbove yX2_refusesAbove, Cond.code yX2_refusesAbove cX2_refusesAbove 3 (some .boolean), Cond.methodLink RX2 35 yX2_isLater, Cond.instanceMethod yX2_isLater, Cond.selects RX2 yX2_isLater yX2_isLater, Cond.code yX2_isLater cX2_isLater 3 (some .boolean), Cond.methodLink RX3 57 yX2_putAbove, Cond.instanceMethod yX2_putAbove, Cond.selects RX2 yX2_putAbove yX2_putAbove, Cond.code yX2_putAbove cX2_putAbove 3 none, Cond.methodLink RX2 41 yX2_link, Cond.instanceMethod yX2_link, Cond.selects RX2 yX2_link yX2_link, Cond.code yX2_link cX2_link 4 none, Cond.methodLink RX3 61 yX2_below, Cond.instanceMethod yX2_below, Cond.selects RX2 yX2_below yX2_below, Cond.code yX2_below cX2_below 2 (some .int), Cond.methodLink RX3 65 yJ6_bitCount_0f7a4]
def wsL_law0_r7 : List Cond := [Cond.static yJ6_bitCount_0f7a4, Cond.initialized RJ6, Cond.code yJ6_bitCount_0f7a4 cJ6_bitCount_0f7a4 1 (some .int), Cond.constant RJ6 265 (1431655765), Cond.constant RJ6 266 (858993459), Cond.constant RJ6 267 (252645135), Cond.methodLink RL 78 yX4_above, Cond.instanceMethod yX4_above, Cond.selects RX4 yX4_above yX4_above, Cond.code yX4_above cX4_above 3 (some .int), Cond.methodLink RX4 44 yX4_isLayer, Cond.instanceMethod yX4_isLayer, Cond.selects RX4 yX4_isLayer yX4_isLayer, Cond.code yX4_isLayer cX4_isLayer 2 (some .boolean), Cond.methodLink RX4 32 yX4_isIn, Cond.static yX4_isIn, Cond.code yX4_isIn cX4_isIn 3 (some .boolean), Cond.methodLink RX4 48 yX4_isRefused, Cond.instanceMethod yX4_isRefused, Cond.selects RX4 yX4_isRefused yX4_isRefused, Cond.code yX4_isRefused cX4_isRefused 3 (some .boolean), Cond.methodLink RX4 40 yX4_has, Cond.static yX4_has, Cond.code yX4_has cX4_has 2 (some .boolean)]
def wsL_law0_r8 : List Cond := [Cond.methodLink RX4 51 yX4_andAbove, Cond.instanceMethod yX4_andAbove, Cond.selects RX4 yX4_andAbove yX4_andAbove, Cond.code yX4_andAbove cX4_andAbove 4 (some .int), Cond.methodLink RX4 54 yX4_andBeneath, Cond.instanceMethod yX4_andBeneath, Cond.selects RX4 yX4_andBeneath yX4_andBeneath, Cond.code yX4_andBeneath cX4_andBeneath 4 (some .int), Cond.methodLink RX4 57 yX4_lay, Cond.instanceMethod yX4_lay, Cond.selects RX4 yX4_lay yX4_lay, Cond.code yX4_lay cX4_lay 4 none, Cond.methodLink RX4 61 yX4_size, Cond.static yX4_size, Cond.code yX4_size cX4_size 3 (some .int), Cond.methodLink RL 79 yL_same, Cond.static yL_same, Cond.codeWith yL_same cL_same 5 (some .int) [(0, 10, 13, 19), (0, 10, 17, 13)], Cond.methodLink RL 21 yX3_same, Cond.instanceMethod yX3_same, Cond.selects RX3 yX3_same yX3_same, Cond.code yX3_same cX3_same 3 (some .int), Cond.methodLink RX3 70 yX2_isLater, Cond.methodLink RX3 75 yX2_join]
def wsL_law0_r9 : List Cond := [Cond.instanceMethod yX2_join, Cond.selects RX2 yX2_join yX2_join, Cond.code yX2_join cX2_join 7 none, Cond.methodLink RX3 78 yX2_alike, Cond.instanceMethod yX2_alike, Cond.selects RX2 yX2_alike yX2_alike, Cond.code yX2_alike cX2_alike 2 (some .int), Cond.methodLink RL 81 yX4_same, Cond.instanceMethod yX4_same, Cond.selects RX4 yX4_same yX4_same, Cond.code yX4_same cX4_same 7 (some .int), Cond.methodLink RL 82 yL_sift, Cond.static yL_sift, Cond.codeWith yL_sift cL_sift 6 (some .int) [(0, 12, 15, 19), (0, 12, 19, 28)], Cond.classLink RL 28 "java/lang/IllegalArgumentException", Cond.methodLink RL 24 yX3_sift, Cond.instanceMethod yX3_sift, Cond.selects RX3 yX3_sift yX3_sift, Cond.code yX3_sift cX3_sift 4 (some .int), Cond.classLink RX3 84 "java/lang/IllegalArgumentException", Cond.initialized "java/lang/IllegalArgumentException", Cond.methodLink RX3 81 yX3_checkKind, Cond.static yX3_checkKind, Cond.code yX3_checkKind cX3_checkKind 1 none]
def wsL_law0_r10 : List Cond := [Cond.methodLink RX3 89 yX1_put, Cond.instanceMethod yX1_put, Cond.selects RX1 yX1_put yX1_put, Cond.code yX1_put cX1_put 6 (some .int), Cond.methodLink RL 85 yX4_sift, Cond.instanceMethod yX4_sift, Cond.selects RX4 yX4_sift yX4_sift, Cond.code yX4_sift cX4_sift 5 (some .int), Cond.methodLink RL 86 yL_hearth, Cond.static yL_hearth, Cond.codeWith yL_hearth cL_hearth 6 (some .int) [(0, 12, 15, 19), (0, 12, 19, 28)], Cond.methodLink RL 30 yX3_hearth, Cond.instanceMethod yX3_hearth, Cond.selects RX3 yX3_hearth yX3_hearth, Cond.code yX3_hearth cX3_hearth 4 (some .int), Cond.methodLink RX3 95 yX0_put, Cond.instanceMethod yX0_put, Cond.selects RX0 yX0_put yX0_put, Cond.code yX0_put cX0_put 4 none, Cond.fieldLink RX0 18 "CairnShells$Hearths" "burning" "I", Cond.methodLink RX3 98 yX3_firstYear, Cond.instanceMethod yX3_firstYear, Cond.selects RX3 yX3_firstYear yX3_firstYear, Cond.code yX3_firstYear cX3_firstYear 3 (some .int)]
def wsL_law0_r11 : List Cond := [Cond.methodLink RX3 199 yX0_greatestFirst, Cond.instanceMethod yX0_greatestFirst, Cond.selects RX0 yX0_greatestFirst yX0_greatestFirst, Cond.code yX0_greatestFirst cX0_greatestFirst 4 (some .int), Cond.methodLink RX0 32 Lib.Math.max.name, Cond.methodLink RL 88 yX4_hearth, Cond.instanceMethod yX4_hearth, Cond.selects RX4 yX4_hearth yX4_hearth, Cond.code yX4_hearth cX4_hearth 4 (some .int), Cond.methodLink RX4 76 yX4_from, Cond.instanceMethod yX4_from, Cond.selects RX4 yX4_from yX4_from, Cond.code yX4_from cX4_from 4 (some .int), Cond.methodLink RX4 67 Lib.Math.max.name, Cond.methodLink RX4 64 yX4_isDated, Cond.instanceMethod yX4_isDated, Cond.selects RX4 yX4_isDated yX4_isDated, Cond.code yX4_isDated cX4_isDated 2 (some .boolean), Cond.methodLink RL 89 yL_clear, Cond.static yL_clear, Cond.codeWith yL_clear cL_clear 4 (some .int) [(0, 9, 12, 19), (0, 9, 15, 13)], Cond.methodLink RL 33 yX3_clear, Cond.instanceMethod yX3_clear, Cond.selects RX3 yX3_clear yX3_clear]
def wsL_law0_r12 : List Cond := [Cond.code yX3_clear cX3_clear 3 (some .int), Cond.methodLink RX3 102 yX0_isAt, Cond.instanceMethod yX0_isAt, Cond.selects RX0 yX0_isAt yX0_isAt, Cond.code yX0_isAt cX0_isAt 2 (some .boolean), Cond.methodLink RX3 108 yX0_firstAt, Cond.instanceMethod yX0_firstAt, Cond.selects RX0 yX0_firstAt yX0_firstAt, Cond.code yX0_firstAt cX0_firstAt 2 (some .int), Cond.methodLink RX3 111 yX0_take, Cond.instanceMethod yX0_take, Cond.selects RX0 yX0_take yX0_take, Cond.code yX0_take cX0_take 2 none, Cond.methodLink RL 92 yX4_clear, Cond.instanceMethod yX4_clear, Cond.selects RX4 yX4_clear yX4_clear, Cond.code yX4_clear cX4_clear 3 (some .int), Cond.methodLink RL 93 yL_later, Cond.static yL_later, Cond.codeWith yL_later cL_later 5 (some .int) [(0, 17, 20, 19)], Cond.methodLink RL 37 yX3_later, Cond.instanceMethod yX3_later, Cond.selects RX3 yX3_later yX3_later, Cond.code yX3_later cX3_later 3 (some .boolean)]
def wsL_law0_r13 : List Cond := [Cond.methodLink RL 95 yX4_later, Cond.instanceMethod yX4_later, Cond.selects RX4 yX4_later yX4_later, Cond.code yX4_later cX4_later 3 (some .boolean), Cond.methodLink RL 96 yL_told, Cond.static yL_told, Cond.codeWith yL_told cL_told 5 (some .int) [(0, 10, 13, 19)], Cond.methodLink RL 41 yX3_told, Cond.instanceMethod yX3_told, Cond.selects RX3 yX3_told yX3_told, Cond.code yX3_told cX3_told 3 (some .int), Cond.methodLink RX3 117 yX3_toldOf, Cond.instanceMethod yX3_toldOf, Cond.selects RX3 yX3_toldOf yX3_toldOf, Cond.code yX3_toldOf cX3_toldOf 3 (some .int), Cond.methodLink RX3 173 yX3_lastYear, Cond.instanceMethod yX3_lastYear, Cond.selects RX3 yX3_lastYear yX3_lastYear, Cond.code yX3_lastYear cX3_lastYear 3 (some .int), Cond.methodLink RX3 127 yX2_onTop, Cond.instanceMethod yX2_onTop, Cond.selects RX2 yX2_onTop yX2_onTop, Cond.code yX2_onTop cX2_onTop 2 (some .int), Cond.methodLink RX3 202 yX0_leastLast]
def wsL_law0_r14 : List Cond := [Cond.instanceMethod yX0_leastLast, Cond.selects RX0 yX0_leastLast yX0_leastLast, Cond.code yX0_leastLast cX0_leastLast 4 (some .int), Cond.methodLink RX0 38 Lib.Math.min.name, Cond.static Lib.Math.min.name, Cond.code Lib.Math.min.name Lib.Math.min.code 2 (some .int), Cond.methodLink RX3 143 yX3_isDoubtful, Cond.instanceMethod yX3_isDoubtful, Cond.selects RX3 yX3_isDoubtful yX3_isDoubtful, Cond.code yX3_isDoubtful cX3_isDoubtful 3 (some .boolean), Cond.methodLink RX3 153 yX2_phase, Cond.instanceMethod yX2_phase, Cond.selects RX2 yX2_phase yX2_phase, Cond.code yX2_phase cX2_phase 2 (some .int), Cond.methodLink RX3 176 yX3_season, Cond.instanceMethod yX3_season, Cond.selects RX3 yX3_season yX3_season, Cond.code yX3_season cX3_season 10 (some .int), Cond.methodLink RX3 121 yX3_findsOf, Cond.instanceMethod yX3_findsOf, Cond.selects RX3 yX3_findsOf yX3_findsOf, Cond.code yX3_findsOf cX3_findsOf 3 (some .int), Cond.methodLink RX3 192 yX1_sum, Cond.instanceMethod yX1_sum]
def wsL_law0_r15 : List Cond := [Cond.selects RX1 yX1_sum yX1_sum, Cond.code yX1_sum cX1_sum 5 (some .int), Cond.methodLink RX3 195 yX3_weight, Cond.static yX3_weight, Cond.code yX3_weight cX3_weight 5 (some .int), Cond.methodLink RL 98 yX4_told, Cond.instanceMethod yX4_told, Cond.selects RX4 yX4_told yX4_told, Cond.code yX4_told cX4_told 3 (some .int), Cond.methodLink RX4 98 yX4_toldOf, Cond.instanceMethod yX4_toldOf, Cond.selects RX4 yX4_toldOf yX4_toldOf, Cond.code yX4_toldOf cX4_toldOf 3 (some .int), Cond.methodLink RX4 79 yX4_to, Cond.instanceMethod yX4_to, Cond.selects RX4 yX4_to yX4_to, Cond.code yX4_to cX4_to 4 (some .int), Cond.methodLink RX4 73 Lib.Math.min.name, Cond.methodLink RX4 85 yX4_isDoubtful, Cond.instanceMethod yX4_isDoubtful, Cond.selects RX4 yX4_isDoubtful yX4_isDoubtful, Cond.code yX4_isDoubtful cX4_isDoubtful 2 (some .boolean), Cond.methodLink RX4 88 yX4_phases, Cond.instanceMethod yX4_phases]
def wsL_law0_r16 : List Cond := [Cond.selects RX4 yX4_phases yX4_phases, Cond.code yX4_phases cX4_phases 5 (some (.array .int)), Cond.methodLink RX4 92 yX4_laterThan, Cond.instanceMethod yX4_laterThan, Cond.selects RX4 yX4_laterThan yX4_laterThan, Cond.code yX4_laterThan cX4_laterThan 4 (some .int), Cond.methodLink RX4 95 yX4_season, Cond.instanceMethod yX4_season, Cond.selects RX4 yX4_season yX4_season, Cond.code yX4_season cX4_season 9 (some .int), Cond.methodLink RX4 82 yX4_all, Cond.instanceMethod yX4_all, Cond.selects RX4 yX4_all yX4_all, Cond.code yX4_all cX4_all 5 (some .int), Cond.methodLink RL 99 yL_finds, Cond.static yL_finds, Cond.codeWith yL_finds cL_finds 5 (some .int) [(0, 10, 13, 19)], Cond.methodLink RL 44 yX3_finds, Cond.instanceMethod yX3_finds, Cond.selects RX3 yX3_finds yX3_finds, Cond.code yX3_finds cX3_finds 3 (some .int), Cond.methodLink RL 101 yX4_finds, Cond.instanceMethod yX4_finds, Cond.selects RX4 yX4_finds yX4_finds]
def wsL_law0_r17 : List Cond := [Cond.code yX4_finds cX4_finds 3 (some .int), Cond.methodLink RL 102 yL_order, Cond.static yL_order, Cond.codeWith yL_order cL_order 4 (some .int) [(0, 9, 12, 19)], Cond.methodLink RL 47 yX3_order, Cond.instanceMethod yX3_order, Cond.selects RX3 yX3_order yX3_order, Cond.code yX3_order cX3_order 2 (some .int), Cond.methodLink RX3 124 yX2_placed, Cond.instanceMethod yX2_placed, Cond.selects RX2 yX2_placed yX2_placed, Cond.code yX2_placed cX2_placed 2 (some .int), Cond.methodLink RL 104 yX4_order, Cond.instanceMethod yX4_order, Cond.selects RX4 yX4_order yX4_order, Cond.code yX4_order cX4_order 2 (some .int), Cond.methodLink RX4 101 yX4_orderAt, Cond.instanceMethod yX4_orderAt, Cond.selects RX4 yX4_orderAt yX4_orderAt, Cond.code yX4_orderAt cX4_orderAt 5 (some .int), Cond.methodLink RL 105 yL_between, Cond.static yL_between, Cond.codeWith yL_between cL_between 5 (some .int) [(0, 10, 13, 19)], Cond.methodLink RL 50 yX3_between]
def wsL_law0_r18 : List Cond := [Cond.instanceMethod yX3_between, Cond.selects RX3 yX3_between yX3_between, Cond.code yX3_between cX3_between 3 (some .int), Cond.methodLink RL 107 yX4_between, Cond.instanceMethod yX4_between, Cond.selects RX4 yX4_between yX4_between, Cond.code yX4_between cX4_between 3 (some .int), Cond.methodLink RX4 104 yX4_within, Cond.instanceMethod yX4_within, Cond.selects RX4 yX4_within yX4_within, Cond.code yX4_within cX4_within 5 (some .int), Cond.methodLink RL 108 yL_count, Cond.static yL_count, Cond.codeWith yL_count cL_count 4 (some .int) [(0, 9, 12, 19)], Cond.methodLink RL 53 yX3_count, Cond.instanceMethod yX3_count, Cond.selects RX3 yX3_count yX3_count, Cond.code yX3_count cX3_count 2 (some .int), Cond.methodLink RX3 130 yX3_counted, Cond.instanceMethod yX3_counted, Cond.selects RX3 yX3_counted yX3_counted, Cond.code yX3_counted cX3_counted 2 (some .int), Cond.methodLink RX3 179 yX2_phases, Cond.instanceMethod yX2_phases]
def wsL_law0_r19 : List Cond := [Cond.selects RX2 yX2_phases yX2_phases, Cond.code yX2_phases cX2_phases 3 (some .int), Cond.methodLink RX3 133 yX3_doubtfulLayers, Cond.instanceMethod yX3_doubtfulLayers, Cond.selects RX3 yX3_doubtfulLayers yX3_doubtfulLayers, Cond.code yX3_doubtfulLayers cX3_doubtfulLayers 4 (some .int), Cond.methodLink RX3 182 yX0_size, Cond.instanceMethod yX0_size, Cond.selects RX0 yX0_size yX0_size, Cond.code yX0_size cX0_size 1 (some .int), Cond.methodLink RX0 22 yJ6_bitCount_0f7a4, Cond.methodLink RX3 183 yX2_pairs, Cond.instanceMethod yX2_pairs, Cond.selects RX2 yX2_pairs yX2_pairs, Cond.code yX2_pairs cX2_pairs 3 (some .int), Cond.methodLink RX2 58 yJ6_bitCount_0f7a4, Cond.methodLink RX3 186 yX2_sorts, Cond.instanceMethod yX2_sorts, Cond.selects RX2 yX2_sorts yX2_sorts, Cond.code yX2_sorts cX2_sorts 3 (some .int), Cond.methodLink RX3 189 yX1_all, Cond.instanceMethod yX1_all, Cond.selects RX1 yX1_all yX1_all, Cond.code yX1_all cX1_all 3 (some .int)]
def wsL_law0_r20 : List Cond := [Cond.methodLink RL 110 yX4_count, Cond.instanceMethod yX4_count, Cond.selects RX4 yX4_count yX4_count, Cond.code yX4_count cX4_count 2 (some .int), Cond.methodLink RX4 114 yX4_counted, Cond.instanceMethod yX4_counted, Cond.selects RX4 yX4_counted yX4_counted, Cond.code yX4_counted cX4_counted 7 (some .int), Cond.methodLink RX4 107 yX4_doubtful, Cond.instanceMethod yX4_doubtful, Cond.selects RX4 yX4_doubtful yX4_doubtful, Cond.code yX4_doubtful cX4_doubtful 3 (some .int), Cond.methodLink RX4 111 yX4_pairs, Cond.instanceMethod yX4_pairs, Cond.selects RX4 yX4_pairs yX4_pairs, Cond.code yX4_pairs cX4_pairs 3 (some .int), Cond.methodLink RL 111 yX3_blame, Cond.instanceMethod yX3_blame, Cond.selects RX3 yX3_blame yX3_blame, Cond.code yX3_blame cX3_blame 5 (some .int), Cond.methodLink RX3 137 yX0_copy, Cond.instanceMethod yX0_copy, Cond.selects RX0 yX0_copy yX0_copy, Cond.code yX0_copy cX0_copy 3 none]
def wsL_law0_r21 : List Cond := [Cond.methodLink RL 114 yX4_blame, Cond.instanceMethod yX4_blame, Cond.selects RX4 yX4_blame yX4_blame, Cond.code yX4_blame cX4_blame 6 (some .int), Cond.methodLink RL 115 yL_narrows, Cond.static yL_narrows, Cond.codeWith yL_narrows cL_narrows 5 (some .int) [(0, 10, 13, 19), (0, 10, 17, 28)], Cond.methodLink RL 56 yX3_narrows, Cond.instanceMethod yX3_narrows, Cond.selects RX3 yX3_narrows yX3_narrows, Cond.code yX3_narrows cX3_narrows 5 (some .int), Cond.methodLink RX3 147 yX3_span, Cond.instanceMethod yX3_span, Cond.selects RX3 yX3_span yX3_span, Cond.code yX3_span cX3_span 3 (some .int), Cond.methodLink RL 117 yX4_narrows, Cond.instanceMethod yX4_narrows, Cond.selects RX4 yX4_narrows yX4_narrows, Cond.code yX4_narrows cX4_narrows 8 (some .int), Cond.methodLink RL 118 yL_tells, Cond.static yL_tells, Cond.codeWith yL_tells cL_tells 5 (some .int) [(0, 10, 13, 19)], Cond.methodLink RL 59 yX3_tells, Cond.instanceMethod yX3_tells]
def wsL_law0_r22 : List Cond := [Cond.selects RX3 yX3_tells yX3_tells, Cond.code yX3_tells cX3_tells 3 (some .int), Cond.methodLink RX3 150 yX2_pairsMore, Cond.instanceMethod yX2_pairsMore, Cond.selects RX2 yX2_pairsMore yX2_pairsMore, Cond.code yX2_pairsMore cX2_pairsMore 7 (some .int), Cond.methodLink RL 120 yX4_tells, Cond.instanceMethod yX4_tells, Cond.selects RX4 yX4_tells yX4_tells, Cond.code yX4_tells cX4_tells 6 (some .int), Cond.methodLink RX4 117 ⟨"[I", "clone", "()Ljava/lang/Object;"⟩, Cond.sameMethod "[I" "java/lang/Object" "clone" "()Ljava/lang/Object;", Cond.native ⟨"java/lang/Object", "clone", "()Ljava/lang/Object;"⟩, Cond.instanceMethod ⟨"java/lang/Object", "clone", "()Ljava/lang/Object;"⟩, Cond.selects "[I" ⟨"[I", "clone", "()Ljava/lang/Object;"⟩ ⟨"java/lang/Object", "clone", "()Ljava/lang/Object;"⟩, Cond.classLink RX4 118 "[I", Cond.methodLink RX4 122 arraycopyName, Cond.native arraycopyName, Cond.static arraycopyName, Cond.initialized "java/lang/System", Cond.methodLink RL 121 yX3_mean, Cond.instanceMethod yX3_mean, Cond.selects RX3 yX3_mean yX3_mean, Cond.code yX3_mean cX3_mean 4 (some .double)]
def wsL_law0_r23 : List Cond := [Cond.methodLink RL 125 yX4_mean, Cond.instanceMethod yX4_mean, Cond.selects RX4 yX4_mean yX4_mean, Cond.code yX4_mean cX4_mean 6 (some .double), Cond.methodLink RL 126 yX3_digest, Cond.instanceMethod yX3_digest, Cond.selects RX3 yX3_digest yX3_digest, Cond.code yX3_digest cX3_digest 4 (some .long), Cond.constantLong RX3 156 (1361), Cond.methodLink RX3 158 yX3_mixed, Cond.static yX3_mixed, Cond.code yX3_mixed cX3_mixed 4 (some .long), Cond.constantLong RX3 166 (31), Cond.methodLink RX3 162 yX3_mixedLayer, Cond.instanceMethod yX3_mixedLayer, Cond.selects RX3 yX3_mixedLayer yX3_mixedLayer, Cond.code yX3_mixedLayer cX3_mixedLayer 7 (some .long), Cond.methodLink RL 130 yX4_digest, Cond.instanceMethod yX4_digest, Cond.selects RX4 yX4_digest yX4_digest, Cond.code yX4_digest cX4_digest 5 (some .long), Cond.constantLong RX4 128 (1361), Cond.constantLong RX4 130 (31)]
def wsL_law0 : List Cond := (wsL_law0_r1 ++ (wsL_law0_r2 ++ (wsL_law0_r3 ++ (wsL_law0_r4 ++ (wsL_law0_r5 ++ (wsL_law0_r6 ++ (wsL_law0_r7 ++ (wsL_law0_r8 ++ (wsL_law0_r9 ++ (wsL_law0_r10 ++ (wsL_law0_r11 ++ (wsL_law0_r12 ++ (wsL_law0_r13 ++ (wsL_law0_r14 ++ (wsL_law0_r15 ++ (wsL_law0_r16 ++ (wsL_law0_r17 ++ (wsL_law0_r18 ++ (wsL_law0_r19 ++ (wsL_law0_r20 ++ (wsL_law0_r21 ++ (wsL_law0_r22 ++ wsL_law0_r23)))))))))))))))))))))) ++ wsX30 ++ wsX40 ++ wsX20 ++ wsX10 ++ wsX00 ++ ([] : List Cond)
def wsL_law : List Cond := wsL_law0 ++ (vx_atS RX3 41 "java/lang/IllegalStateException" ["java/lang/RuntimeException", "java/lang/Exception"]).filter goodWord ++ (vx_atS RX3 172 "java/lang/IndexOutOfBoundsException" ["java/lang/RuntimeException", "java/lang/Exception"]).filter goodWord ++ (vx_atS RX3 88 "java/lang/IllegalArgumentException" ["java/lang/RuntimeException", "java/lang/Exception"]).filter goodWord
abbrev vwCl : List vw_C := [(RX0, TX0, 3), (RX1, TX1, 1), (RX2, TX2, 6), (RX3, TX3, 4), (RX4, TX4, 7)]
end
section
theorem dX0_init_0 : decode cX0_init 0 = .ok (.aload_n 0, 1) := by decide +kernel
theorem dX0_init_1 : decode cX0_init 1 = .ok (.invokespecial 3, 3) := by decide +kernel
theorem dX0_init_4 : decode cX0_init 4 = .ok (.aload_n 0, 1) := by decide +kernel
theorem dX0_init_5 : decode cX0_init 5 = .ok (.bipush 14, 2) := by decide +kernel
theorem dX0_init_7 : decode cX0_init 7 = .ok (.newarray .int, 2) := by decide +kernel
theorem dX0_init_9 : decode cX0_init 9 = .ok (.putfield 9, 3) := by decide +kernel
theorem dX0_init_12 : decode cX0_init 12 = .ok (.aload_n 0, 1) := by decide +kernel
theorem dX0_init_13 : decode cX0_init 13 = .ok (.bipush 14, 2) := by decide +kernel
theorem dX0_init_15 : decode cX0_init 15 = .ok (.newarray .int, 2) := by decide +kernel
theorem dX0_init_17 : decode cX0_init 17 = .ok (.putfield 15, 3) := by decide +kernel
theorem dX0_init_20 : decode cX0_init 20 = .ok (.iconst 0, 1) := by decide +kernel
theorem dX0_init_21 : decode cX0_init 21 = .ok (.istore_n 1, 1) := by decide +kernel
theorem dX0_init_22 : decode cX0_init 22 = .ok (.iload_n 1, 1) := by decide +kernel
theorem dX0_init_23 : decode cX0_init 23 = .ok (.bipush 14, 2) := by decide +kernel
theorem dX0_init_25 : decode cX0_init 25 = .ok (.if_icmp .ge 25, 3) := by decide +kernel
theorem dX0_init_28 : decode cX0_init 28 = .ok (.aload_n 0, 1) := by decide +kernel
theorem dX0_init_29 : decode cX0_init 29 = .ok (.getfield 9, 3) := by decide +kernel
theorem dX0_init_32 : decode cX0_init 32 = .ok (.iload_n 1, 1) := by decide +kernel
theorem dX0_init_33 : decode cX0_init 33 = .ok (.iconst 0, 1) := by decide +kernel
theorem dX0_init_34 : decode cX0_init 34 = .ok (.iastore, 1) := by decide +kernel
theorem dX0_init_35 : decode cX0_init 35 = .ok (.aload_n 0, 1) := by decide +kernel
theorem dX0_init_36 : decode cX0_init 36 = .ok (.getfield 15, 3) := by decide +kernel
theorem dX0_init_39 : decode cX0_init 39 = .ok (.iload_n 1, 1) := by decide +kernel
theorem dX0_init_40 : decode cX0_init 40 = .ok (.sipush 9999, 3) := by decide +kernel
theorem dX0_init_43 : decode cX0_init 43 = .ok (.iastore, 1) := by decide +kernel
theorem dX0_init_44 : decode cX0_init 44 = .ok (.iinc 1 1, 3) := by decide +kernel
theorem dX0_init_47 : decode cX0_init 47 = .ok (.goto (-25), 3) := by decide +kernel
theorem dX0_init_50 : decode cX0_init 50 = .ok (.return_, 1) := by decide +kernel
set_option maxRecDepth 20000 in
theorem ggX0_size_J6_bitCount_0f7a4 : GoodIn wsX0_size wsJ6_bitCount_0f7a4 := goodIn_r _ [5, 6, 7, 8] (by decide +kernel) (by decide +kernel)
set_option maxRecDepth 20000 in
theorem gX0_size_J6_bitCount_0f7a4 : GoodIn wsX0_size (va_wsS RX0 22 yJ6_bitCount_0f7a4 wsJ6_bitCount_0f7a4) := goodIn_app (goodIn_of _ (by decide +kernel)) ggX0_size_J6_bitCount_0f7a4
theorem dX0_size_0 : decode cX0_size 0 = .ok (.aload_n 0, 1) := by decide +kernel
theorem dX0_size_1 : decode cX0_size 1 = .ok (.getfield 18, 3) := by decide +kernel
theorem dX0_size_4 : decode cX0_size 4 = .ok (.invokestatic 22, 3) := by decide +kernel
theorem dX0_size_7 : decode cX0_size 7 = .ok (.ireturn, 1) := by decide +kernel
set_option maxRecDepth 20000 in
theorem ggX0_isAt_X3_has : GoodIn wsX0_isAt wsX3_has := goodIn_r _ [4] (by decide +kernel) (by decide +kernel)
set_option maxRecDepth 20000 in
theorem gX0_isAt_X3_has_n28 : GoodIn wsX0_isAt (wsX3_has) := ggX0_isAt_X3_has
theorem dX0_isAt_0 : decode cX0_isAt 0 = .ok (.aload_n 0, 1) := by decide +kernel
theorem dX0_isAt_1 : decode cX0_isAt 1 = .ok (.getfield 18, 3) := by decide +kernel
theorem dX0_isAt_4 : decode cX0_isAt 4 = .ok (.iload_n 1, 1) := by decide +kernel
theorem dX0_isAt_5 : decode cX0_isAt 5 = .ok (.invokestatic 28, 3) := by decide +kernel
theorem dX0_isAt_8 : decode cX0_isAt 8 = .ok (.ireturn, 1) := by decide +kernel
theorem dX0_firstAt_0 : decode cX0_firstAt 0 = .ok (.aload_n 0, 1) := by decide +kernel
theorem dX0_firstAt_1 : decode cX0_firstAt 1 = .ok (.getfield 9, 3) := by decide +kernel
theorem dX0_firstAt_4 : decode cX0_firstAt 4 = .ok (.iload_n 1, 1) := by decide +kernel
theorem dX0_firstAt_5 : decode cX0_firstAt 5 = .ok (.iaload, 1) := by decide +kernel
theorem dX0_firstAt_6 : decode cX0_firstAt 6 = .ok (.ireturn, 1) := by decide +kernel
theorem dX0_put_0 : decode cX0_put 0 = .ok (.aload_n 0, 1) := by decide +kernel
theorem dX0_put_1 : decode cX0_put 1 = .ok (.dup, 1) := by decide +kernel
theorem dX0_put_2 : decode cX0_put 2 = .ok (.getfield 18, 3) := by decide +kernel
theorem dX0_put_5 : decode cX0_put 5 = .ok (.iconst 1, 1) := by decide +kernel
theorem dX0_put_6 : decode cX0_put 6 = .ok (.iload_n 1, 1) := by decide +kernel
theorem dX0_put_7 : decode cX0_put 7 = .ok (.ishl, 1) := by decide +kernel
theorem dX0_put_8 : decode cX0_put 8 = .ok (.ior, 1) := by decide +kernel
theorem dX0_put_9 : decode cX0_put 9 = .ok (.putfield 18, 3) := by decide +kernel
theorem dX0_put_12 : decode cX0_put 12 = .ok (.aload_n 0, 1) := by decide +kernel
theorem dX0_put_13 : decode cX0_put 13 = .ok (.getfield 9, 3) := by decide +kernel
theorem dX0_put_16 : decode cX0_put 16 = .ok (.iload_n 1, 1) := by decide +kernel
theorem dX0_put_17 : decode cX0_put 17 = .ok (.iload_n 2, 1) := by decide +kernel
theorem dX0_put_18 : decode cX0_put 18 = .ok (.iastore, 1) := by decide +kernel
theorem dX0_put_19 : decode cX0_put 19 = .ok (.aload_n 0, 1) := by decide +kernel
theorem dX0_put_20 : decode cX0_put 20 = .ok (.getfield 15, 3) := by decide +kernel
theorem dX0_put_23 : decode cX0_put 23 = .ok (.iload_n 1, 1) := by decide +kernel
theorem dX0_put_24 : decode cX0_put 24 = .ok (.iload_n 3, 1) := by decide +kernel
theorem dX0_put_25 : decode cX0_put 25 = .ok (.iastore, 1) := by decide +kernel
theorem dX0_put_26 : decode cX0_put 26 = .ok (.return_, 1) := by decide +kernel
theorem dX0_take_0 : decode cX0_take 0 = .ok (.aload_n 0, 1) := by decide +kernel
theorem dX0_take_1 : decode cX0_take 1 = .ok (.dup, 1) := by decide +kernel
theorem dX0_take_2 : decode cX0_take 2 = .ok (.getfield 18, 3) := by decide +kernel
theorem dX0_take_5 : decode cX0_take 5 = .ok (.iconst 1, 1) := by decide +kernel
theorem dX0_take_6 : decode cX0_take 6 = .ok (.iload_n 1, 1) := by decide +kernel
theorem dX0_take_7 : decode cX0_take 7 = .ok (.ishl, 1) := by decide +kernel
theorem dX0_take_8 : decode cX0_take 8 = .ok (.iconst (-1), 1) := by decide +kernel
theorem dX0_take_9 : decode cX0_take 9 = .ok (.ixor, 1) := by decide +kernel
theorem dX0_take_10 : decode cX0_take 10 = .ok (.iand, 1) := by decide +kernel
theorem dX0_take_11 : decode cX0_take 11 = .ok (.putfield 18, 3) := by decide +kernel
theorem dX0_take_14 : decode cX0_take 14 = .ok (.aload_n 0, 1) := by decide +kernel
theorem dX0_take_15 : decode cX0_take 15 = .ok (.getfield 9, 3) := by decide +kernel
theorem dX0_take_18 : decode cX0_take 18 = .ok (.iload_n 1, 1) := by decide +kernel
theorem dX0_take_19 : decode cX0_take 19 = .ok (.iconst 0, 1) := by decide +kernel
theorem dX0_take_20 : decode cX0_take 20 = .ok (.iastore, 1) := by decide +kernel
theorem dX0_take_21 : decode cX0_take 21 = .ok (.aload_n 0, 1) := by decide +kernel
theorem dX0_take_22 : decode cX0_take 22 = .ok (.getfield 15, 3) := by decide +kernel
theorem dX0_take_25 : decode cX0_take 25 = .ok (.iload_n 1, 1) := by decide +kernel
theorem dX0_take_26 : decode cX0_take 26 = .ok (.sipush 9999, 3) := by decide +kernel
theorem dX0_take_29 : decode cX0_take 29 = .ok (.iastore, 1) := by decide +kernel
theorem dX0_take_30 : decode cX0_take 30 = .ok (.return_, 1) := by decide +kernel
theorem dX0_copy_0 : decode cX0_copy 0 = .ok (.aload_n 0, 1) := by decide +kernel
theorem dX0_copy_1 : decode cX0_copy 1 = .ok (.aload_n 1, 1) := by decide +kernel
theorem dX0_copy_2 : decode cX0_copy 2 = .ok (.getfield 18, 3) := by decide +kernel
theorem dX0_copy_5 : decode cX0_copy 5 = .ok (.putfield 18, 3) := by decide +kernel
theorem dX0_copy_8 : decode cX0_copy 8 = .ok (.iconst 0, 1) := by decide +kernel
theorem dX0_copy_9 : decode cX0_copy 9 = .ok (.istore_n 2, 1) := by decide +kernel
theorem dX0_copy_10 : decode cX0_copy 10 = .ok (.iload_n 2, 1) := by decide +kernel
theorem dX0_copy_11 : decode cX0_copy 11 = .ok (.bipush 14, 2) := by decide +kernel
theorem dX0_copy_13 : decode cX0_copy 13 = .ok (.if_icmp .ge 33, 3) := by decide +kernel
theorem dX0_copy_16 : decode cX0_copy 16 = .ok (.aload_n 0, 1) := by decide +kernel
theorem dX0_copy_17 : decode cX0_copy 17 = .ok (.getfield 9, 3) := by decide +kernel
theorem dX0_copy_20 : decode cX0_copy 20 = .ok (.iload_n 2, 1) := by decide +kernel
theorem dX0_copy_21 : decode cX0_copy 21 = .ok (.aload_n 1, 1) := by decide +kernel
theorem dX0_copy_22 : decode cX0_copy 22 = .ok (.getfield 9, 3) := by decide +kernel
theorem dX0_copy_25 : decode cX0_copy 25 = .ok (.iload_n 2, 1) := by decide +kernel
theorem dX0_copy_26 : decode cX0_copy 26 = .ok (.iaload, 1) := by decide +kernel
theorem dX0_copy_27 : decode cX0_copy 27 = .ok (.iastore, 1) := by decide +kernel
theorem dX0_copy_28 : decode cX0_copy 28 = .ok (.aload_n 0, 1) := by decide +kernel
theorem dX0_copy_29 : decode cX0_copy 29 = .ok (.getfield 15, 3) := by decide +kernel
theorem dX0_copy_32 : decode cX0_copy 32 = .ok (.iload_n 2, 1) := by decide +kernel
theorem dX0_copy_33 : decode cX0_copy 33 = .ok (.aload_n 1, 1) := by decide +kernel
theorem dX0_copy_34 : decode cX0_copy 34 = .ok (.getfield 15, 3) := by decide +kernel
theorem dX0_copy_37 : decode cX0_copy 37 = .ok (.iload_n 2, 1) := by decide +kernel
theorem dX0_copy_38 : decode cX0_copy 38 = .ok (.iaload, 1) := by decide +kernel
theorem dX0_copy_39 : decode cX0_copy 39 = .ok (.iastore, 1) := by decide +kernel
theorem dX0_copy_40 : decode cX0_copy 40 = .ok (.iinc 2 1, 3) := by decide +kernel
theorem dX0_copy_43 : decode cX0_copy 43 = .ok (.goto (-33), 3) := by decide +kernel
theorem dX0_copy_46 : decode cX0_copy 46 = .ok (.return_, 1) := by decide +kernel
set_option maxRecDepth 20000 in
theorem ggX0_greatestFirst_X3_has : GoodIn wsX0_greatestFirst wsX3_has := goodIn_r _ [8] (by decide +kernel) (by decide +kernel)
set_option maxRecDepth 20000 in
theorem gX0_greatestFirst_X3_has_n28 : GoodIn wsX0_greatestFirst (wsX3_has) := ggX0_greatestFirst_X3_has
theorem dX0_greatestFirst_0 : decode cX0_greatestFirst 0 = .ok (.iconst 0, 1) := by decide +kernel
theorem dX0_greatestFirst_1 : decode cX0_greatestFirst 1 = .ok (.istore_n 2, 1) := by decide +kernel
theorem dX0_greatestFirst_2 : decode cX0_greatestFirst 2 = .ok (.iconst 0, 1) := by decide +kernel
theorem dX0_greatestFirst_3 : decode cX0_greatestFirst 3 = .ok (.istore_n 3, 1) := by decide +kernel
theorem dX0_greatestFirst_4 : decode cX0_greatestFirst 4 = .ok (.iload_n 3, 1) := by decide +kernel
theorem dX0_greatestFirst_5 : decode cX0_greatestFirst 5 = .ok (.bipush 14, 2) := by decide +kernel
theorem dX0_greatestFirst_7 : decode cX0_greatestFirst 7 = .ok (.if_icmp .ge 28, 3) := by decide +kernel
theorem dX0_greatestFirst_10 : decode cX0_greatestFirst 10 = .ok (.iload_n 1, 1) := by decide +kernel
theorem dX0_greatestFirst_11 : decode cX0_greatestFirst 11 = .ok (.iload_n 3, 1) := by decide +kernel
theorem dX0_greatestFirst_12 : decode cX0_greatestFirst 12 = .ok (.invokestatic 28, 3) := by decide +kernel
theorem dX0_greatestFirst_15 : decode cX0_greatestFirst 15 = .ok (.ifCond .eq 14, 3) := by decide +kernel
theorem dX0_greatestFirst_18 : decode cX0_greatestFirst 18 = .ok (.iload_n 2, 1) := by decide +kernel
theorem dX0_greatestFirst_19 : decode cX0_greatestFirst 19 = .ok (.aload_n 0, 1) := by decide +kernel
theorem dX0_greatestFirst_20 : decode cX0_greatestFirst 20 = .ok (.getfield 9, 3) := by decide +kernel
theorem dX0_greatestFirst_23 : decode cX0_greatestFirst 23 = .ok (.iload_n 3, 1) := by decide +kernel
theorem dX0_greatestFirst_24 : decode cX0_greatestFirst 24 = .ok (.iaload, 1) := by decide +kernel
theorem dX0_greatestFirst_25 : decode cX0_greatestFirst 25 = .ok (.invokestatic 32, 3) := by decide +kernel
theorem dX0_greatestFirst_28 : decode cX0_greatestFirst 28 = .ok (.istore_n 2, 1) := by decide +kernel
theorem dX0_greatestFirst_29 : decode cX0_greatestFirst 29 = .ok (.iinc 3 1, 3) := by decide +kernel
theorem dX0_greatestFirst_32 : decode cX0_greatestFirst 32 = .ok (.goto (-28), 3) := by decide +kernel
theorem dX0_greatestFirst_35 : decode cX0_greatestFirst 35 = .ok (.iload_n 2, 1) := by decide +kernel
theorem dX0_greatestFirst_36 : decode cX0_greatestFirst 36 = .ok (.ireturn, 1) := by decide +kernel
set_option maxRecDepth 20000 in
theorem ggX0_leastLast_X3_has : GoodIn wsX0_leastLast wsX3_has := goodIn_r _ [8] (by decide +kernel) (by decide +kernel)
set_option maxRecDepth 20000 in
theorem gX0_leastLast_X3_has_n28 : GoodIn wsX0_leastLast (wsX3_has) := ggX0_leastLast_X3_has
theorem dX0_leastLast_0 : decode cX0_leastLast 0 = .ok (.sipush 9999, 3) := by decide +kernel
theorem dX0_leastLast_3 : decode cX0_leastLast 3 = .ok (.istore_n 2, 1) := by decide +kernel
theorem dX0_leastLast_4 : decode cX0_leastLast 4 = .ok (.iconst 0, 1) := by decide +kernel
theorem dX0_leastLast_5 : decode cX0_leastLast 5 = .ok (.istore_n 3, 1) := by decide +kernel
theorem dX0_leastLast_6 : decode cX0_leastLast 6 = .ok (.iload_n 3, 1) := by decide +kernel
theorem dX0_leastLast_7 : decode cX0_leastLast 7 = .ok (.bipush 14, 2) := by decide +kernel
theorem dX0_leastLast_9 : decode cX0_leastLast 9 = .ok (.if_icmp .ge 28, 3) := by decide +kernel
theorem dX0_leastLast_12 : decode cX0_leastLast 12 = .ok (.iload_n 1, 1) := by decide +kernel
theorem dX0_leastLast_13 : decode cX0_leastLast 13 = .ok (.iload_n 3, 1) := by decide +kernel
theorem dX0_leastLast_14 : decode cX0_leastLast 14 = .ok (.invokestatic 28, 3) := by decide +kernel
theorem dX0_leastLast_17 : decode cX0_leastLast 17 = .ok (.ifCond .eq 14, 3) := by decide +kernel
theorem dX0_leastLast_20 : decode cX0_leastLast 20 = .ok (.iload_n 2, 1) := by decide +kernel
theorem dX0_leastLast_21 : decode cX0_leastLast 21 = .ok (.aload_n 0, 1) := by decide +kernel
theorem dX0_leastLast_22 : decode cX0_leastLast 22 = .ok (.getfield 15, 3) := by decide +kernel
theorem dX0_leastLast_25 : decode cX0_leastLast 25 = .ok (.iload_n 3, 1) := by decide +kernel
theorem dX0_leastLast_26 : decode cX0_leastLast 26 = .ok (.iaload, 1) := by decide +kernel
theorem dX0_leastLast_27 : decode cX0_leastLast 27 = .ok (.invokestatic 38, 3) := by decide +kernel
theorem dX0_leastLast_30 : decode cX0_leastLast 30 = .ok (.istore_n 2, 1) := by decide +kernel
theorem dX0_leastLast_31 : decode cX0_leastLast 31 = .ok (.iinc 3 1, 3) := by decide +kernel
theorem dX0_leastLast_34 : decode cX0_leastLast 34 = .ok (.goto (-28), 3) := by decide +kernel
theorem dX0_leastLast_37 : decode cX0_leastLast 37 = .ok (.iload_n 2, 1) := by decide +kernel
theorem dX0_leastLast_38 : decode cX0_leastLast 38 = .ok (.ireturn, 1) := by decide +kernel
theorem dX1_init_0 : decode cX1_init 0 = .ok (.aload_n 0, 1) := by decide +kernel
theorem dX1_init_1 : decode cX1_init 1 = .ok (.invokespecial 3, 3) := by decide +kernel
theorem dX1_init_4 : decode cX1_init 4 = .ok (.aload_n 0, 1) := by decide +kernel
theorem dX1_init_5 : decode cX1_init 5 = .ok (.bipush 56, 2) := by decide +kernel
theorem dX1_init_7 : decode cX1_init 7 = .ok (.newarray .int, 2) := by decide +kernel
theorem dX1_init_9 : decode cX1_init 9 = .ok (.putfield 9, 3) := by decide +kernel
theorem dX1_init_12 : decode cX1_init 12 = .ok (.return_, 1) := by decide +kernel
theorem dX1_put_0 : decode cX1_put 0 = .ok (.iload_n 1, 1) := by decide +kernel
theorem dX1_put_1 : decode cX1_put 1 = .ok (.iconst 4, 1) := by decide +kernel
theorem dX1_put_2 : decode cX1_put 2 = .ok (.imul, 1) := by decide +kernel
theorem dX1_put_3 : decode cX1_put 3 = .ok (.iload_n 2, 1) := by decide +kernel
theorem dX1_put_4 : decode cX1_put 4 = .ok (.iadd, 1) := by decide +kernel
theorem dX1_put_5 : decode cX1_put 5 = .ok (.istore 4, 2) := by decide +kernel
theorem dX1_put_7 : decode cX1_put 7 = .ok (.aload_n 0, 1) := by decide +kernel
theorem dX1_put_8 : decode cX1_put 8 = .ok (.getfield 9, 3) := by decide +kernel
theorem dX1_put_11 : decode cX1_put 11 = .ok (.iload 4, 2) := by decide +kernel
theorem dX1_put_13 : decode cX1_put 13 = .ok (.iaload, 1) := by decide +kernel
theorem dX1_put_14 : decode cX1_put 14 = .ok (.istore 5, 2) := by decide +kernel
theorem dX1_put_16 : decode cX1_put 16 = .ok (.aload_n 0, 1) := by decide +kernel
theorem dX1_put_17 : decode cX1_put 17 = .ok (.getfield 9, 3) := by decide +kernel
theorem dX1_put_20 : decode cX1_put 20 = .ok (.iload 4, 2) := by decide +kernel
theorem dX1_put_22 : decode cX1_put 22 = .ok (.iload_n 3, 1) := by decide +kernel
theorem dX1_put_23 : decode cX1_put 23 = .ok (.iastore, 1) := by decide +kernel
theorem dX1_put_24 : decode cX1_put 24 = .ok (.iload 5, 2) := by decide +kernel
theorem dX1_put_26 : decode cX1_put 26 = .ok (.ireturn, 1) := by decide +kernel
set_option maxRecDepth 20000 in
theorem ggX1_sum_X3_has : GoodIn wsX1_sum wsX3_has := goodIn_r _ [4] (by decide +kernel) (by decide +kernel)
set_option maxRecDepth 20000 in
theorem gX1_sum_X3_has_n15 : GoodIn wsX1_sum (wsX3_has) := ggX1_sum_X3_has
theorem dX1_sum_0 : decode cX1_sum 0 = .ok (.iconst 0, 1) := by decide +kernel
theorem dX1_sum_1 : decode cX1_sum 1 = .ok (.istore_n 3, 1) := by decide +kernel
theorem dX1_sum_2 : decode cX1_sum 2 = .ok (.iconst 0, 1) := by decide +kernel
theorem dX1_sum_3 : decode cX1_sum 3 = .ok (.istore 4, 2) := by decide +kernel
theorem dX1_sum_5 : decode cX1_sum 5 = .ok (.iload 4, 2) := by decide +kernel
theorem dX1_sum_7 : decode cX1_sum 7 = .ok (.bipush 14, 2) := by decide +kernel
theorem dX1_sum_9 : decode cX1_sum 9 = .ok (.if_icmp .ge 32, 3) := by decide +kernel
theorem dX1_sum_12 : decode cX1_sum 12 = .ok (.iload_n 1, 1) := by decide +kernel
theorem dX1_sum_13 : decode cX1_sum 13 = .ok (.iload 4, 2) := by decide +kernel
theorem dX1_sum_15 : decode cX1_sum 15 = .ok (.invokestatic 15, 3) := by decide +kernel
theorem dX1_sum_18 : decode cX1_sum 18 = .ok (.ifCond .eq 17, 3) := by decide +kernel
theorem dX1_sum_21 : decode cX1_sum 21 = .ok (.iload_n 3, 1) := by decide +kernel
theorem dX1_sum_22 : decode cX1_sum 22 = .ok (.aload_n 0, 1) := by decide +kernel
theorem dX1_sum_23 : decode cX1_sum 23 = .ok (.getfield 9, 3) := by decide +kernel
theorem dX1_sum_26 : decode cX1_sum 26 = .ok (.iload 4, 2) := by decide +kernel
theorem dX1_sum_28 : decode cX1_sum 28 = .ok (.iconst 4, 1) := by decide +kernel
theorem dX1_sum_29 : decode cX1_sum 29 = .ok (.imul, 1) := by decide +kernel
theorem dX1_sum_30 : decode cX1_sum 30 = .ok (.iload_n 2, 1) := by decide +kernel
theorem dX1_sum_31 : decode cX1_sum 31 = .ok (.iadd, 1) := by decide +kernel
theorem dX1_sum_32 : decode cX1_sum 32 = .ok (.iaload, 1) := by decide +kernel
theorem dX1_sum_33 : decode cX1_sum 33 = .ok (.iadd, 1) := by decide +kernel
theorem dX1_sum_34 : decode cX1_sum 34 = .ok (.istore_n 3, 1) := by decide +kernel
theorem dX1_sum_35 : decode cX1_sum 35 = .ok (.iinc 4 1, 3) := by decide +kernel
theorem dX1_sum_38 : decode cX1_sum 38 = .ok (.goto (-33), 3) := by decide +kernel
theorem dX1_sum_41 : decode cX1_sum 41 = .ok (.iload_n 3, 1) := by decide +kernel
theorem dX1_sum_42 : decode cX1_sum 42 = .ok (.ireturn, 1) := by decide +kernel
theorem dX1_all_0 : decode cX1_all 0 = .ok (.iconst 0, 1) := by decide +kernel
theorem dX1_all_1 : decode cX1_all 1 = .ok (.istore_n 1, 1) := by decide +kernel
theorem dX1_all_2 : decode cX1_all 2 = .ok (.iconst 0, 1) := by decide +kernel
theorem dX1_all_3 : decode cX1_all 3 = .ok (.istore_n 2, 1) := by decide +kernel
theorem dX1_all_4 : decode cX1_all 4 = .ok (.iload_n 2, 1) := by decide +kernel
theorem dX1_all_5 : decode cX1_all 5 = .ok (.aload_n 0, 1) := by decide +kernel
theorem dX1_all_6 : decode cX1_all 6 = .ok (.getfield 9, 3) := by decide +kernel
theorem dX1_all_9 : decode cX1_all 9 = .ok (.arraylength, 1) := by decide +kernel
theorem dX1_all_10 : decode cX1_all 10 = .ok (.if_icmp .ge 18, 3) := by decide +kernel
theorem dX1_all_13 : decode cX1_all 13 = .ok (.iload_n 1, 1) := by decide +kernel
theorem dX1_all_14 : decode cX1_all 14 = .ok (.aload_n 0, 1) := by decide +kernel
theorem dX1_all_15 : decode cX1_all 15 = .ok (.getfield 9, 3) := by decide +kernel
theorem dX1_all_18 : decode cX1_all 18 = .ok (.iload_n 2, 1) := by decide +kernel
theorem dX1_all_19 : decode cX1_all 19 = .ok (.iaload, 1) := by decide +kernel
theorem dX1_all_20 : decode cX1_all 20 = .ok (.iadd, 1) := by decide +kernel
theorem dX1_all_21 : decode cX1_all 21 = .ok (.istore_n 1, 1) := by decide +kernel
theorem dX1_all_22 : decode cX1_all 22 = .ok (.iinc 2 1, 3) := by decide +kernel
theorem dX1_all_25 : decode cX1_all 25 = .ok (.goto (-21), 3) := by decide +kernel
theorem dX1_all_28 : decode cX1_all 28 = .ok (.iload_n 1, 1) := by decide +kernel
theorem dX1_all_29 : decode cX1_all 29 = .ok (.ireturn, 1) := by decide +kernel
theorem dX2_init_0 : decode cX2_init 0 = .ok (.aload_n 0, 1) := by decide +kernel
theorem dX2_init_1 : decode cX2_init 1 = .ok (.invokespecial 3, 3) := by decide +kernel
theorem dX2_init_4 : decode cX2_init 4 = .ok (.aload_n 0, 1) := by decide +kernel
theorem dX2_init_5 : decode cX2_init 5 = .ok (.bipush 14, 2) := by decide +kernel
theorem dX2_init_7 : decode cX2_init 7 = .ok (.newarray .int, 2) := by decide +kernel
theorem dX2_init_9 : decode cX2_init 9 = .ok (.putfield 9, 3) := by decide +kernel
theorem dX2_init_12 : decode cX2_init 12 = .ok (.aload_n 0, 1) := by decide +kernel
theorem dX2_init_13 : decode cX2_init 13 = .ok (.bipush 14, 2) := by decide +kernel
theorem dX2_init_15 : decode cX2_init 15 = .ok (.newarray .int, 2) := by decide +kernel
theorem dX2_init_17 : decode cX2_init 17 = .ok (.putfield 15, 3) := by decide +kernel
theorem dX2_init_20 : decode cX2_init 20 = .ok (.aload_n 0, 1) := by decide +kernel
theorem dX2_init_21 : decode cX2_init 21 = .ok (.bipush 14, 2) := by decide +kernel
theorem dX2_init_23 : decode cX2_init 23 = .ok (.newarray .int, 2) := by decide +kernel
theorem dX2_init_25 : decode cX2_init 25 = .ok (.putfield 18, 3) := by decide +kernel
theorem dX2_init_28 : decode cX2_init 28 = .ok (.aload_n 0, 1) := by decide +kernel
theorem dX2_init_29 : decode cX2_init 29 = .ok (.bipush 14, 2) := by decide +kernel
theorem dX2_init_31 : decode cX2_init 31 = .ok (.newarray .int, 2) := by decide +kernel
theorem dX2_init_33 : decode cX2_init 33 = .ok (.putfield 21, 3) := by decide +kernel
theorem dX2_init_36 : decode cX2_init 36 = .ok (.aload_n 0, 1) := by decide +kernel
theorem dX2_init_37 : decode cX2_init 37 = .ok (.bipush 14, 2) := by decide +kernel
theorem dX2_init_39 : decode cX2_init 39 = .ok (.newarray .int, 2) := by decide +kernel
theorem dX2_init_41 : decode cX2_init 41 = .ok (.putfield 24, 3) := by decide +kernel
theorem dX2_init_44 : decode cX2_init 44 = .ok (.return_, 1) := by decide +kernel
theorem dX2_size_0 : decode cX2_size 0 = .ok (.aload_n 0, 1) := by decide +kernel
theorem dX2_size_1 : decode cX2_size 1 = .ok (.getfield 27, 3) := by decide +kernel
theorem dX2_size_4 : decode cX2_size 4 = .ok (.ireturn, 1) := by decide +kernel
theorem dX2_alike_0 : decode cX2_alike 0 = .ok (.aload_n 0, 1) := by decide +kernel
theorem dX2_alike_1 : decode cX2_alike 1 = .ok (.getfield 9, 3) := by decide +kernel
theorem dX2_alike_4 : decode cX2_alike 4 = .ok (.iload_n 1, 1) := by decide +kernel
theorem dX2_alike_5 : decode cX2_alike 5 = .ok (.iaload, 1) := by decide +kernel
theorem dX2_alike_6 : decode cX2_alike 6 = .ok (.ireturn, 1) := by decide +kernel
theorem dX2_below_0 : decode cX2_below 0 = .ok (.aload_n 0, 1) := by decide +kernel
theorem dX2_below_1 : decode cX2_below 1 = .ok (.getfield 15, 3) := by decide +kernel
theorem dX2_below_4 : decode cX2_below 4 = .ok (.iload_n 1, 1) := by decide +kernel
theorem dX2_below_5 : decode cX2_below 5 = .ok (.iaload, 1) := by decide +kernel
theorem dX2_below_6 : decode cX2_below 6 = .ok (.ireturn, 1) := by decide +kernel
theorem dX2_onTop_0 : decode cX2_onTop 0 = .ok (.aload_n 0, 1) := by decide +kernel
theorem dX2_onTop_1 : decode cX2_onTop 1 = .ok (.getfield 18, 3) := by decide +kernel
theorem dX2_onTop_4 : decode cX2_onTop 4 = .ok (.iload_n 1, 1) := by decide +kernel
theorem dX2_onTop_5 : decode cX2_onTop 5 = .ok (.iaload, 1) := by decide +kernel
theorem dX2_onTop_6 : decode cX2_onTop 6 = .ok (.ireturn, 1) := by decide +kernel
theorem dX2_placed_0 : decode cX2_placed 0 = .ok (.aload_n 0, 1) := by decide +kernel
theorem dX2_placed_1 : decode cX2_placed 1 = .ok (.getfield 21, 3) := by decide +kernel
theorem dX2_placed_4 : decode cX2_placed 4 = .ok (.iload_n 1, 1) := by decide +kernel
theorem dX2_placed_5 : decode cX2_placed 5 = .ok (.iaload, 1) := by decide +kernel
theorem dX2_placed_6 : decode cX2_placed 6 = .ok (.ireturn, 1) := by decide +kernel
theorem dX2_phase_0 : decode cX2_phase 0 = .ok (.aload_n 0, 1) := by decide +kernel
theorem dX2_phase_1 : decode cX2_phase 1 = .ok (.getfield 24, 3) := by decide +kernel
theorem dX2_phase_4 : decode cX2_phase 4 = .ok (.iload_n 1, 1) := by decide +kernel
theorem dX2_phase_5 : decode cX2_phase 5 = .ok (.iaload, 1) := by decide +kernel
theorem dX2_phase_6 : decode cX2_phase 6 = .ok (.ireturn, 1) := by decide +kernel
set_option maxRecDepth 20000 in
theorem ggX2_isLater_X3_has : GoodIn wsX2_isLater wsX3_has := goodIn_r _ [4] (by decide +kernel) (by decide +kernel)
set_option maxRecDepth 20000 in
theorem gX2_isLater_X3_has_n31 : GoodIn wsX2_isLater (wsX3_has) := ggX2_isLater_X3_has
theorem dX2_isLater_0 : decode cX2_isLater 0 = .ok (.aload_n 0, 1) := by decide +kernel
theorem dX2_isLater_1 : decode cX2_isLater 1 = .ok (.getfield 15, 3) := by decide +kernel
theorem dX2_isLater_4 : decode cX2_isLater 4 = .ok (.iload_n 1, 1) := by decide +kernel
theorem dX2_isLater_5 : decode cX2_isLater 5 = .ok (.iaload, 1) := by decide +kernel
theorem dX2_isLater_6 : decode cX2_isLater 6 = .ok (.iload_n 2, 1) := by decide +kernel
theorem dX2_isLater_7 : decode cX2_isLater 7 = .ok (.invokestatic 31, 3) := by decide +kernel
theorem dX2_isLater_10 : decode cX2_isLater 10 = .ok (.ireturn, 1) := by decide +kernel
set_option maxRecDepth 20000 in
theorem ggX2_refusesAbove_X3_has : GoodIn wsX2_refusesAbove wsX3_has := goodIn_r _ [4] (by decide +kernel) (by decide +kernel)
set_option maxRecDepth 20000 in
theorem gX2_refusesAbove_X3_has_n31 : GoodIn wsX2_refusesAbove (wsX3_has) := ggX2_refusesAbove_X3_has
set_option maxRecDepth 20000 in
theorem ggX2_refusesAbove_X2_isLater : GoodIn wsX2_refusesAbove wsX2_isLater := goodIn_r _ [9, 10, 2, 3, 4, 11, 12, 13, 14, 15, 16] (by decide +kernel) (by decide +kernel)
set_option maxRecDepth 20000 in
theorem gX2_refusesAbove_X2_isLater : GoodIn wsX2_refusesAbove (wsV RX2 35 RX2 yX2_isLater wsX2_isLater) := goodIn_app (goodIn_of _ (by decide +kernel)) ggX2_refusesAbove_X2_isLater
theorem dX2_refusesAbove_0 : decode cX2_refusesAbove 0 = .ok (.aload_n 0, 1) := by decide +kernel
theorem dX2_refusesAbove_1 : decode cX2_refusesAbove 1 = .ok (.getfield 9, 3) := by decide +kernel
theorem dX2_refusesAbove_4 : decode cX2_refusesAbove 4 = .ok (.iload_n 1, 1) := by decide +kernel
theorem dX2_refusesAbove_5 : decode cX2_refusesAbove 5 = .ok (.iaload, 1) := by decide +kernel
theorem dX2_refusesAbove_6 : decode cX2_refusesAbove 6 = .ok (.iload_n 2, 1) := by decide +kernel
theorem dX2_refusesAbove_7 : decode cX2_refusesAbove 7 = .ok (.invokestatic 31, 3) := by decide +kernel
theorem dX2_refusesAbove_10 : decode cX2_refusesAbove 10 = .ok (.ifCond .ne 12, 3) := by decide +kernel
theorem dX2_refusesAbove_13 : decode cX2_refusesAbove 13 = .ok (.aload_n 0, 1) := by decide +kernel
theorem dX2_refusesAbove_14 : decode cX2_refusesAbove 14 = .ok (.iload_n 2, 1) := by decide +kernel
theorem dX2_refusesAbove_15 : decode cX2_refusesAbove 15 = .ok (.iload_n 1, 1) := by decide +kernel
theorem dX2_refusesAbove_16 : decode cX2_refusesAbove 16 = .ok (.invokevirtual 35, 3) := by decide +kernel
theorem dX2_refusesAbove_19 : decode cX2_refusesAbove 19 = .ok (.ifCond .eq 7, 3) := by decide +kernel
theorem dX2_refusesAbove_22 : decode cX2_refusesAbove 22 = .ok (.iconst 1, 1) := by decide +kernel
theorem dX2_refusesAbove_23 : decode cX2_refusesAbove 23 = .ok (.goto 4, 3) := by decide +kernel
theorem dX2_refusesAbove_26 : decode cX2_refusesAbove 26 = .ok (.iconst 0, 1) := by decide +kernel
theorem dX2_refusesAbove_27 : decode cX2_refusesAbove 27 = .ok (.ireturn, 1) := by decide +kernel
set_option maxRecDepth 20000 in
theorem ggX2_addLayer_X2_arrange : GoodIn wsX2_addLayer wsX2_arrange := goodIn_r _ [7, 1, 8, 9, 10, 11, 12, 13, 6, 14, 15, 16, 17, 18, 19, 20, 21, 22, 23, 24, 25, 26, 27, 28, 29, 30, 31] (by decide +kernel) (by decide +kernel)
set_option maxRecDepth 20000 in
theorem gX2_addLayer_X2_arrange : GoodIn wsX2_addLayer (wsV RX2 38 RX2 yX2_arrange wsX2_arrange) := goodIn_app (goodIn_of _ (by decide +kernel)) ggX2_addLayer_X2_arrange
theorem dX2_addLayer_0 : decode cX2_addLayer 0 = .ok (.aload_n 0, 1) := by decide +kernel
theorem dX2_addLayer_1 : decode cX2_addLayer 1 = .ok (.getfield 27, 3) := by decide +kernel
theorem dX2_addLayer_4 : decode cX2_addLayer 4 = .ok (.istore_n 1, 1) := by decide +kernel
theorem dX2_addLayer_5 : decode cX2_addLayer 5 = .ok (.aload_n 0, 1) := by decide +kernel
theorem dX2_addLayer_6 : decode cX2_addLayer 6 = .ok (.getfield 9, 3) := by decide +kernel
theorem dX2_addLayer_9 : decode cX2_addLayer 9 = .ok (.iload_n 1, 1) := by decide +kernel
theorem dX2_addLayer_10 : decode cX2_addLayer 10 = .ok (.iconst 1, 1) := by decide +kernel
theorem dX2_addLayer_11 : decode cX2_addLayer 11 = .ok (.iload_n 1, 1) := by decide +kernel
theorem dX2_addLayer_12 : decode cX2_addLayer 12 = .ok (.ishl, 1) := by decide +kernel
theorem dX2_addLayer_13 : decode cX2_addLayer 13 = .ok (.iastore, 1) := by decide +kernel
theorem dX2_addLayer_14 : decode cX2_addLayer 14 = .ok (.aload_n 0, 1) := by decide +kernel
theorem dX2_addLayer_15 : decode cX2_addLayer 15 = .ok (.iload_n 1, 1) := by decide +kernel
theorem dX2_addLayer_16 : decode cX2_addLayer 16 = .ok (.iconst 1, 1) := by decide +kernel
theorem dX2_addLayer_17 : decode cX2_addLayer 17 = .ok (.iadd, 1) := by decide +kernel
theorem dX2_addLayer_18 : decode cX2_addLayer 18 = .ok (.putfield 27, 3) := by decide +kernel
theorem dX2_addLayer_21 : decode cX2_addLayer 21 = .ok (.aload_n 0, 1) := by decide +kernel
theorem dX2_addLayer_22 : decode cX2_addLayer 22 = .ok (.invokevirtual 38, 3) := by decide +kernel
theorem dX2_addLayer_25 : decode cX2_addLayer 25 = .ok (.iload_n 1, 1) := by decide +kernel
theorem dX2_addLayer_26 : decode cX2_addLayer 26 = .ok (.ireturn, 1) := by decide +kernel
set_option maxRecDepth 20000 in
theorem ggX2_putAbove_X2_link : GoodIn wsX2_putAbove wsX2_link := goodIn_r _ [8, 9, 3, 2, 10, 11, 12, 31, 32, 33, 34, 35, 36] (by decide +kernel) (by decide +kernel)
set_option maxRecDepth 20000 in
theorem gX2_putAbove_X2_link : GoodIn wsX2_putAbove (wsV RX2 41 RX2 yX2_link wsX2_link) := goodIn_app (goodIn_of _ (by decide +kernel)) ggX2_putAbove_X2_link
set_option maxRecDepth 20000 in
theorem ggX2_putAbove_X2_arrange : GoodIn wsX2_putAbove wsX2_arrange := goodIn_r _ [16, 9, 17, 18, 3, 19, 20, 21, 7, 22, 10, 11, 12, 23, 24, 25, 26, 27, 28, 29, 30, 31, 32, 33, 34, 35, 36] (by decide +kernel) (by decide +kernel)
set_option maxRecDepth 20000 in
theorem gX2_putAbove_X2_arrange : GoodIn wsX2_putAbove (wsV RX2 38 RX2 yX2_arrange wsX2_arrange) := goodIn_app (goodIn_of _ (by decide +kernel)) ggX2_putAbove_X2_arrange
theorem dX2_putAbove_0 : decode cX2_putAbove 0 = .ok (.aload_n 0, 1) := by decide +kernel
theorem dX2_putAbove_1 : decode cX2_putAbove 1 = .ok (.aload_n 0, 1) := by decide +kernel
theorem dX2_putAbove_2 : decode cX2_putAbove 2 = .ok (.getfield 9, 3) := by decide +kernel
theorem dX2_putAbove_5 : decode cX2_putAbove 5 = .ok (.iload_n 1, 1) := by decide +kernel
theorem dX2_putAbove_6 : decode cX2_putAbove 6 = .ok (.iaload, 1) := by decide +kernel
theorem dX2_putAbove_7 : decode cX2_putAbove 7 = .ok (.aload_n 0, 1) := by decide +kernel
theorem dX2_putAbove_8 : decode cX2_putAbove 8 = .ok (.getfield 18, 3) := by decide +kernel
theorem dX2_putAbove_11 : decode cX2_putAbove 11 = .ok (.iload_n 1, 1) := by decide +kernel
theorem dX2_putAbove_12 : decode cX2_putAbove 12 = .ok (.iaload, 1) := by decide +kernel
theorem dX2_putAbove_13 : decode cX2_putAbove 13 = .ok (.ior, 1) := by decide +kernel
theorem dX2_putAbove_14 : decode cX2_putAbove 14 = .ok (.aload_n 0, 1) := by decide +kernel
theorem dX2_putAbove_15 : decode cX2_putAbove 15 = .ok (.getfield 9, 3) := by decide +kernel
theorem dX2_putAbove_18 : decode cX2_putAbove 18 = .ok (.iload_n 2, 1) := by decide +kernel
theorem dX2_putAbove_19 : decode cX2_putAbove 19 = .ok (.iaload, 1) := by decide +kernel
theorem dX2_putAbove_20 : decode cX2_putAbove 20 = .ok (.aload_n 0, 1) := by decide +kernel
theorem dX2_putAbove_21 : decode cX2_putAbove 21 = .ok (.getfield 15, 3) := by decide +kernel
theorem dX2_putAbove_24 : decode cX2_putAbove 24 = .ok (.iload_n 2, 1) := by decide +kernel
theorem dX2_putAbove_25 : decode cX2_putAbove 25 = .ok (.iaload, 1) := by decide +kernel
theorem dX2_putAbove_26 : decode cX2_putAbove 26 = .ok (.ior, 1) := by decide +kernel
theorem dX2_putAbove_27 : decode cX2_putAbove 27 = .ok (.invokevirtual 41, 3) := by decide +kernel
theorem dX2_putAbove_30 : decode cX2_putAbove 30 = .ok (.aload_n 0, 1) := by decide +kernel
theorem dX2_putAbove_31 : decode cX2_putAbove 31 = .ok (.invokevirtual 38, 3) := by decide +kernel
theorem dX2_putAbove_34 : decode cX2_putAbove 34 = .ok (.return_, 1) := by decide +kernel
set_option maxRecDepth 20000 in
theorem ggX2_join_X3_has : GoodIn wsX2_join wsX3_has := goodIn_r _ [7] (by decide +kernel) (by decide +kernel)
set_option maxRecDepth 20000 in
theorem gX2_join_X3_has_n31 : GoodIn wsX2_join (wsX3_has) := ggX2_join_X3_has
set_option maxRecDepth 20000 in
theorem ggX2_join_X2_link : GoodIn wsX2_join wsX2_link := goodIn_r _ [12, 4, 2, 3, 5, 6, 7, 31, 32, 33, 34, 35, 36] (by decide +kernel) (by decide +kernel)
set_option maxRecDepth 20000 in
theorem gX2_join_X2_link : GoodIn wsX2_join (wsV RX2 41 RX2 yX2_link wsX2_link) := goodIn_app (goodIn_of _ (by decide +kernel)) ggX2_join_X2_link
set_option maxRecDepth 20000 in
theorem ggX2_join_X2_arrange : GoodIn wsX2_join wsX2_arrange := goodIn_r _ [16, 4, 17, 18, 2, 19, 20, 21, 11, 22, 5, 6, 7, 23, 24, 25, 26, 27, 28, 29, 30, 31, 32, 33, 34, 35, 36] (by decide +kernel) (by decide +kernel)
set_option maxRecDepth 20000 in
theorem gX2_join_X2_arrange : GoodIn wsX2_join (wsV RX2 38 RX2 yX2_arrange wsX2_arrange) := goodIn_app (goodIn_of _ (by decide +kernel)) ggX2_join_X2_arrange
theorem dX2_join_0 : decode cX2_join 0 = .ok (.aload_n 0, 1) := by decide +kernel
theorem dX2_join_1 : decode cX2_join 1 = .ok (.getfield 9, 3) := by decide +kernel
theorem dX2_join_4 : decode cX2_join 4 = .ok (.iload_n 1, 1) := by decide +kernel
theorem dX2_join_5 : decode cX2_join 5 = .ok (.iaload, 1) := by decide +kernel
theorem dX2_join_6 : decode cX2_join 6 = .ok (.aload_n 0, 1) := by decide +kernel
theorem dX2_join_7 : decode cX2_join 7 = .ok (.getfield 9, 3) := by decide +kernel
theorem dX2_join_10 : decode cX2_join 10 = .ok (.iload_n 2, 1) := by decide +kernel
theorem dX2_join_11 : decode cX2_join 11 = .ok (.iaload, 1) := by decide +kernel
theorem dX2_join_12 : decode cX2_join 12 = .ok (.ior, 1) := by decide +kernel
theorem dX2_join_13 : decode cX2_join 13 = .ok (.istore_n 3, 1) := by decide +kernel
theorem dX2_join_14 : decode cX2_join 14 = .ok (.aload_n 0, 1) := by decide +kernel
theorem dX2_join_15 : decode cX2_join 15 = .ok (.getfield 15, 3) := by decide +kernel
theorem dX2_join_18 : decode cX2_join 18 = .ok (.iload_n 1, 1) := by decide +kernel
theorem dX2_join_19 : decode cX2_join 19 = .ok (.iaload, 1) := by decide +kernel
theorem dX2_join_20 : decode cX2_join 20 = .ok (.aload_n 0, 1) := by decide +kernel
theorem dX2_join_21 : decode cX2_join 21 = .ok (.getfield 15, 3) := by decide +kernel
theorem dX2_join_24 : decode cX2_join 24 = .ok (.iload_n 2, 1) := by decide +kernel
theorem dX2_join_25 : decode cX2_join 25 = .ok (.iaload, 1) := by decide +kernel
theorem dX2_join_26 : decode cX2_join 26 = .ok (.ior, 1) := by decide +kernel
theorem dX2_join_27 : decode cX2_join 27 = .ok (.istore 4, 2) := by decide +kernel
theorem dX2_join_29 : decode cX2_join 29 = .ok (.aload_n 0, 1) := by decide +kernel
theorem dX2_join_30 : decode cX2_join 30 = .ok (.getfield 18, 3) := by decide +kernel
theorem dX2_join_33 : decode cX2_join 33 = .ok (.iload_n 1, 1) := by decide +kernel
theorem dX2_join_34 : decode cX2_join 34 = .ok (.iaload, 1) := by decide +kernel
theorem dX2_join_35 : decode cX2_join 35 = .ok (.aload_n 0, 1) := by decide +kernel
theorem dX2_join_36 : decode cX2_join 36 = .ok (.getfield 18, 3) := by decide +kernel
theorem dX2_join_39 : decode cX2_join 39 = .ok (.iload_n 2, 1) := by decide +kernel
theorem dX2_join_40 : decode cX2_join 40 = .ok (.iaload, 1) := by decide +kernel
theorem dX2_join_41 : decode cX2_join 41 = .ok (.ior, 1) := by decide +kernel
theorem dX2_join_42 : decode cX2_join 42 = .ok (.istore 5, 2) := by decide +kernel
theorem dX2_join_44 : decode cX2_join 44 = .ok (.iconst 0, 1) := by decide +kernel
theorem dX2_join_45 : decode cX2_join 45 = .ok (.istore 6, 2) := by decide +kernel
theorem dX2_join_47 : decode cX2_join 47 = .ok (.iload 6, 2) := by decide +kernel
theorem dX2_join_49 : decode cX2_join 49 = .ok (.aload_n 0, 1) := by decide +kernel
theorem dX2_join_50 : decode cX2_join 50 = .ok (.getfield 27, 3) := by decide +kernel
theorem dX2_join_53 : decode cX2_join 53 = .ok (.if_icmp .ge 26, 3) := by decide +kernel
theorem dX2_join_56 : decode cX2_join 56 = .ok (.iload_n 3, 1) := by decide +kernel
theorem dX2_join_57 : decode cX2_join 57 = .ok (.iload 6, 2) := by decide +kernel
theorem dX2_join_59 : decode cX2_join 59 = .ok (.invokestatic 31, 3) := by decide +kernel
theorem dX2_join_62 : decode cX2_join 62 = .ok (.ifCond .eq 11, 3) := by decide +kernel
theorem dX2_join_65 : decode cX2_join 65 = .ok (.aload_n 0, 1) := by decide +kernel
theorem dX2_join_66 : decode cX2_join 66 = .ok (.getfield 9, 3) := by decide +kernel
theorem dX2_join_69 : decode cX2_join 69 = .ok (.iload 6, 2) := by decide +kernel
theorem dX2_join_71 : decode cX2_join 71 = .ok (.iload_n 3, 1) := by decide +kernel
theorem dX2_join_72 : decode cX2_join 72 = .ok (.iastore, 1) := by decide +kernel
theorem dX2_join_73 : decode cX2_join 73 = .ok (.iinc 6 1, 3) := by decide +kernel
theorem dX2_join_76 : decode cX2_join 76 = .ok (.goto (-29), 3) := by decide +kernel
theorem dX2_join_79 : decode cX2_join 79 = .ok (.aload_n 0, 1) := by decide +kernel
theorem dX2_join_80 : decode cX2_join 80 = .ok (.iload_n 3, 1) := by decide +kernel
theorem dX2_join_81 : decode cX2_join 81 = .ok (.iload 5, 2) := by decide +kernel
theorem dX2_join_83 : decode cX2_join 83 = .ok (.ior, 1) := by decide +kernel
theorem dX2_join_84 : decode cX2_join 84 = .ok (.iload 4, 2) := by decide +kernel
theorem dX2_join_86 : decode cX2_join 86 = .ok (.invokevirtual 41, 3) := by decide +kernel
theorem dX2_join_89 : decode cX2_join 89 = .ok (.aload_n 0, 1) := by decide +kernel
theorem dX2_join_90 : decode cX2_join 90 = .ok (.iload 5, 2) := by decide +kernel
theorem dX2_join_92 : decode cX2_join 92 = .ok (.iload_n 3, 1) := by decide +kernel
theorem dX2_join_93 : decode cX2_join 93 = .ok (.invokevirtual 41, 3) := by decide +kernel
theorem dX2_join_96 : decode cX2_join 96 = .ok (.aload_n 0, 1) := by decide +kernel
theorem dX2_join_97 : decode cX2_join 97 = .ok (.invokevirtual 38, 3) := by decide +kernel
theorem dX2_join_100 : decode cX2_join 100 = .ok (.return_, 1) := by decide +kernel
set_option maxRecDepth 20000 in
theorem ggX2_link_X3_has : GoodIn wsX2_link wsX3_has := goodIn_r _ [6] (by decide +kernel) (by decide +kernel)
set_option maxRecDepth 20000 in
theorem gX2_link_X3_has_n31 : GoodIn wsX2_link (wsX3_has) := ggX2_link_X3_has
theorem dX2_link_0 : decode cX2_link 0 = .ok (.iconst 0, 1) := by decide +kernel
theorem dX2_link_1 : decode cX2_link 1 = .ok (.istore_n 3, 1) := by decide +kernel
theorem dX2_link_2 : decode cX2_link 2 = .ok (.iload_n 3, 1) := by decide +kernel
theorem dX2_link_3 : decode cX2_link 3 = .ok (.aload_n 0, 1) := by decide +kernel
theorem dX2_link_4 : decode cX2_link 4 = .ok (.getfield 27, 3) := by decide +kernel
theorem dX2_link_7 : decode cX2_link 7 = .ok (.if_icmp .ge 45, 3) := by decide +kernel
theorem dX2_link_10 : decode cX2_link 10 = .ok (.iload_n 1, 1) := by decide +kernel
theorem dX2_link_11 : decode cX2_link 11 = .ok (.iload_n 3, 1) := by decide +kernel
theorem dX2_link_12 : decode cX2_link 12 = .ok (.invokestatic 31, 3) := by decide +kernel
theorem dX2_link_15 : decode cX2_link 15 = .ok (.ifCond .eq 13, 3) := by decide +kernel
theorem dX2_link_18 : decode cX2_link 18 = .ok (.aload_n 0, 1) := by decide +kernel
theorem dX2_link_19 : decode cX2_link 19 = .ok (.getfield 15, 3) := by decide +kernel
theorem dX2_link_22 : decode cX2_link 22 = .ok (.iload_n 3, 1) := by decide +kernel
theorem dX2_link_23 : decode cX2_link 23 = .ok (.dup2, 1) := by decide +kernel
theorem dX2_link_24 : decode cX2_link 24 = .ok (.iaload, 1) := by decide +kernel
theorem dX2_link_25 : decode cX2_link 25 = .ok (.iload_n 2, 1) := by decide +kernel
theorem dX2_link_26 : decode cX2_link 26 = .ok (.ior, 1) := by decide +kernel
theorem dX2_link_27 : decode cX2_link 27 = .ok (.iastore, 1) := by decide +kernel
theorem dX2_link_28 : decode cX2_link 28 = .ok (.iload_n 2, 1) := by decide +kernel
theorem dX2_link_29 : decode cX2_link 29 = .ok (.iload_n 3, 1) := by decide +kernel
theorem dX2_link_30 : decode cX2_link 30 = .ok (.invokestatic 31, 3) := by decide +kernel
theorem dX2_link_33 : decode cX2_link 33 = .ok (.ifCond .eq 13, 3) := by decide +kernel
theorem dX2_link_36 : decode cX2_link 36 = .ok (.aload_n 0, 1) := by decide +kernel
theorem dX2_link_37 : decode cX2_link 37 = .ok (.getfield 18, 3) := by decide +kernel
theorem dX2_link_40 : decode cX2_link 40 = .ok (.iload_n 3, 1) := by decide +kernel
theorem dX2_link_41 : decode cX2_link 41 = .ok (.dup2, 1) := by decide +kernel
theorem dX2_link_42 : decode cX2_link 42 = .ok (.iaload, 1) := by decide +kernel
theorem dX2_link_43 : decode cX2_link 43 = .ok (.iload_n 1, 1) := by decide +kernel
theorem dX2_link_44 : decode cX2_link 44 = .ok (.ior, 1) := by decide +kernel
theorem dX2_link_45 : decode cX2_link 45 = .ok (.iastore, 1) := by decide +kernel
theorem dX2_link_46 : decode cX2_link 46 = .ok (.iinc 3 1, 3) := by decide +kernel
theorem dX2_link_49 : decode cX2_link 49 = .ok (.goto (-47), 3) := by decide +kernel
theorem dX2_link_52 : decode cX2_link 52 = .ok (.return_, 1) := by decide +kernel
set_option maxRecDepth 20000 in
theorem ggX2_arrange_X2_lowestFree : GoodIn wsX2_arrange wsX2_lowestFree := goodIn_r _ [9, 1, 4, 10, 11, 12, 21, 22, 23, 24, 25, 26] (by decide +kernel) (by decide +kernel)
set_option maxRecDepth 20000 in
theorem gX2_arrange_X2_lowestFree : GoodIn wsX2_arrange (wsV RX2 45 RX2 yX2_lowestFree wsX2_lowestFree) := goodIn_app (goodIn_of _ (by decide +kernel)) ggX2_arrange_X2_lowestFree
set_option maxRecDepth 20000 in
theorem ggX2_arrange_X2_phaseOver : GoodIn wsX2_arrange wsX2_phaseOver := goodIn_r _ [16, 1, 3, 17, 18, 19, 20, 10, 11, 12, 21, 22, 23, 24, 25, 26] (by decide +kernel) (by decide +kernel)
set_option maxRecDepth 20000 in
theorem gX2_arrange_X2_phaseOver : GoodIn wsX2_arrange (wsV RX2 49 RX2 yX2_phaseOver wsX2_phaseOver) := goodIn_app (goodIn_of _ (by decide +kernel)) ggX2_arrange_X2_phaseOver
theorem dX2_arrange_0 : decode cX2_arrange 0 = .ok (.iconst 1, 1) := by decide +kernel
theorem dX2_arrange_1 : decode cX2_arrange 1 = .ok (.aload_n 0, 1) := by decide +kernel
theorem dX2_arrange_2 : decode cX2_arrange 2 = .ok (.getfield 27, 3) := by decide +kernel
theorem dX2_arrange_5 : decode cX2_arrange 5 = .ok (.ishl, 1) := by decide +kernel
theorem dX2_arrange_6 : decode cX2_arrange 6 = .ok (.iconst 1, 1) := by decide +kernel
theorem dX2_arrange_7 : decode cX2_arrange 7 = .ok (.isub, 1) := by decide +kernel
theorem dX2_arrange_8 : decode cX2_arrange 8 = .ok (.istore_n 1, 1) := by decide +kernel
theorem dX2_arrange_9 : decode cX2_arrange 9 = .ok (.iconst 0, 1) := by decide +kernel
theorem dX2_arrange_10 : decode cX2_arrange 10 = .ok (.istore_n 2, 1) := by decide +kernel
theorem dX2_arrange_11 : decode cX2_arrange 11 = .ok (.iload_n 2, 1) := by decide +kernel
theorem dX2_arrange_12 : decode cX2_arrange 12 = .ok (.aload_n 0, 1) := by decide +kernel
theorem dX2_arrange_13 : decode cX2_arrange 13 = .ok (.getfield 27, 3) := by decide +kernel
theorem dX2_arrange_16 : decode cX2_arrange 16 = .ok (.if_icmp .ge 46, 3) := by decide +kernel
theorem dX2_arrange_19 : decode cX2_arrange 19 = .ok (.aload_n 0, 1) := by decide +kernel
theorem dX2_arrange_20 : decode cX2_arrange 20 = .ok (.iload_n 1, 1) := by decide +kernel
theorem dX2_arrange_21 : decode cX2_arrange 21 = .ok (.invokevirtual 45, 3) := by decide +kernel
theorem dX2_arrange_24 : decode cX2_arrange 24 = .ok (.istore_n 3, 1) := by decide +kernel
theorem dX2_arrange_25 : decode cX2_arrange 25 = .ok (.aload_n 0, 1) := by decide +kernel
theorem dX2_arrange_26 : decode cX2_arrange 26 = .ok (.getfield 21, 3) := by decide +kernel
theorem dX2_arrange_29 : decode cX2_arrange 29 = .ok (.iload_n 2, 1) := by decide +kernel
theorem dX2_arrange_30 : decode cX2_arrange 30 = .ok (.iload_n 3, 1) := by decide +kernel
theorem dX2_arrange_31 : decode cX2_arrange 31 = .ok (.iastore, 1) := by decide +kernel
theorem dX2_arrange_32 : decode cX2_arrange 32 = .ok (.aload_n 0, 1) := by decide +kernel
theorem dX2_arrange_33 : decode cX2_arrange 33 = .ok (.getfield 24, 3) := by decide +kernel
theorem dX2_arrange_36 : decode cX2_arrange 36 = .ok (.iload_n 3, 1) := by decide +kernel
theorem dX2_arrange_37 : decode cX2_arrange 37 = .ok (.aload_n 0, 1) := by decide +kernel
theorem dX2_arrange_38 : decode cX2_arrange 38 = .ok (.aload_n 0, 1) := by decide +kernel
theorem dX2_arrange_39 : decode cX2_arrange 39 = .ok (.getfield 15, 3) := by decide +kernel
theorem dX2_arrange_42 : decode cX2_arrange 42 = .ok (.iload_n 3, 1) := by decide +kernel
theorem dX2_arrange_43 : decode cX2_arrange 43 = .ok (.iaload, 1) := by decide +kernel
theorem dX2_arrange_44 : decode cX2_arrange 44 = .ok (.invokevirtual 49, 3) := by decide +kernel
theorem dX2_arrange_47 : decode cX2_arrange 47 = .ok (.iastore, 1) := by decide +kernel
theorem dX2_arrange_48 : decode cX2_arrange 48 = .ok (.iload_n 1, 1) := by decide +kernel
theorem dX2_arrange_49 : decode cX2_arrange 49 = .ok (.iconst 1, 1) := by decide +kernel
theorem dX2_arrange_50 : decode cX2_arrange 50 = .ok (.iload_n 3, 1) := by decide +kernel
theorem dX2_arrange_51 : decode cX2_arrange 51 = .ok (.ishl, 1) := by decide +kernel
theorem dX2_arrange_52 : decode cX2_arrange 52 = .ok (.iconst (-1), 1) := by decide +kernel
theorem dX2_arrange_53 : decode cX2_arrange 53 = .ok (.ixor, 1) := by decide +kernel
theorem dX2_arrange_54 : decode cX2_arrange 54 = .ok (.iand, 1) := by decide +kernel
theorem dX2_arrange_55 : decode cX2_arrange 55 = .ok (.istore_n 1, 1) := by decide +kernel
theorem dX2_arrange_56 : decode cX2_arrange 56 = .ok (.iinc 2 1, 3) := by decide +kernel
theorem dX2_arrange_59 : decode cX2_arrange 59 = .ok (.goto (-48), 3) := by decide +kernel
theorem dX2_arrange_62 : decode cX2_arrange 62 = .ok (.return_, 1) := by decide +kernel
set_option maxRecDepth 20000 in
theorem ggX2_lowestFree_X3_has : GoodIn wsX2_lowestFree wsX3_has := goodIn_r _ [5] (by decide +kernel) (by decide +kernel)
set_option maxRecDepth 20000 in
theorem gX2_lowestFree_X3_has_n31 : GoodIn wsX2_lowestFree (wsX3_has) := ggX2_lowestFree_X3_has
theorem dX2_lowestFree_0 : decode cX2_lowestFree 0 = .ok (.iconst 0, 1) := by decide +kernel
theorem dX2_lowestFree_1 : decode cX2_lowestFree 1 = .ok (.istore_n 2, 1) := by decide +kernel
theorem dX2_lowestFree_2 : decode cX2_lowestFree 2 = .ok (.iload_n 2, 1) := by decide +kernel
theorem dX2_lowestFree_3 : decode cX2_lowestFree 3 = .ok (.aload_n 0, 1) := by decide +kernel
theorem dX2_lowestFree_4 : decode cX2_lowestFree 4 = .ok (.getfield 27, 3) := by decide +kernel
theorem dX2_lowestFree_7 : decode cX2_lowestFree 7 = .ok (.iconst 1, 1) := by decide +kernel
theorem dX2_lowestFree_8 : decode cX2_lowestFree 8 = .ok (.isub, 1) := by decide +kernel
theorem dX2_lowestFree_9 : decode cX2_lowestFree 9 = .ok (.if_icmp .ge 28, 3) := by decide +kernel
theorem dX2_lowestFree_12 : decode cX2_lowestFree 12 = .ok (.iload_n 1, 1) := by decide +kernel
theorem dX2_lowestFree_13 : decode cX2_lowestFree 13 = .ok (.iload_n 2, 1) := by decide +kernel
theorem dX2_lowestFree_14 : decode cX2_lowestFree 14 = .ok (.invokestatic 31, 3) := by decide +kernel
theorem dX2_lowestFree_17 : decode cX2_lowestFree 17 = .ok (.ifCond .eq 14, 3) := by decide +kernel
theorem dX2_lowestFree_20 : decode cX2_lowestFree 20 = .ok (.aload_n 0, 1) := by decide +kernel
theorem dX2_lowestFree_21 : decode cX2_lowestFree 21 = .ok (.getfield 15, 3) := by decide +kernel
theorem dX2_lowestFree_24 : decode cX2_lowestFree 24 = .ok (.iload_n 2, 1) := by decide +kernel
theorem dX2_lowestFree_25 : decode cX2_lowestFree 25 = .ok (.iaload, 1) := by decide +kernel
theorem dX2_lowestFree_26 : decode cX2_lowestFree 26 = .ok (.iload_n 1, 1) := by decide +kernel
theorem dX2_lowestFree_27 : decode cX2_lowestFree 27 = .ok (.iand, 1) := by decide +kernel
theorem dX2_lowestFree_28 : decode cX2_lowestFree 28 = .ok (.ifCond .eq 9, 3) := by decide +kernel
theorem dX2_lowestFree_31 : decode cX2_lowestFree 31 = .ok (.iinc 2 1, 3) := by decide +kernel
theorem dX2_lowestFree_34 : decode cX2_lowestFree 34 = .ok (.goto (-32), 3) := by decide +kernel
theorem dX2_lowestFree_37 : decode cX2_lowestFree 37 = .ok (.iload_n 2, 1) := by decide +kernel
theorem dX2_lowestFree_38 : decode cX2_lowestFree 38 = .ok (.ireturn, 1) := by decide +kernel
set_option maxRecDepth 20000 in
theorem ggX2_phaseOver_X3_has : GoodIn wsX2_phaseOver wsX3_has := goodIn_r _ [9] (by decide +kernel) (by decide +kernel)
set_option maxRecDepth 20000 in
theorem gX2_phaseOver_X3_has_n31 : GoodIn wsX2_phaseOver (wsX3_has) := ggX2_phaseOver_X3_has
theorem dX2_phaseOver_0 : decode cX2_phaseOver 0 = .ok (.iconst 0, 1) := by decide +kernel
theorem dX2_phaseOver_1 : decode cX2_phaseOver 1 = .ok (.istore_n 2, 1) := by decide +kernel
theorem dX2_phaseOver_2 : decode cX2_phaseOver 2 = .ok (.iconst 0, 1) := by decide +kernel
theorem dX2_phaseOver_3 : decode cX2_phaseOver 3 = .ok (.istore_n 3, 1) := by decide +kernel
theorem dX2_phaseOver_4 : decode cX2_phaseOver 4 = .ok (.iload_n 3, 1) := by decide +kernel
theorem dX2_phaseOver_5 : decode cX2_phaseOver 5 = .ok (.aload_n 0, 1) := by decide +kernel
theorem dX2_phaseOver_6 : decode cX2_phaseOver 6 = .ok (.getfield 27, 3) := by decide +kernel
theorem dX2_phaseOver_9 : decode cX2_phaseOver 9 = .ok (.if_icmp .ge 30, 3) := by decide +kernel
theorem dX2_phaseOver_12 : decode cX2_phaseOver 12 = .ok (.iload_n 1, 1) := by decide +kernel
theorem dX2_phaseOver_13 : decode cX2_phaseOver 13 = .ok (.iload_n 3, 1) := by decide +kernel
theorem dX2_phaseOver_14 : decode cX2_phaseOver 14 = .ok (.invokestatic 31, 3) := by decide +kernel
theorem dX2_phaseOver_17 : decode cX2_phaseOver 17 = .ok (.ifCond .eq 16, 3) := by decide +kernel
theorem dX2_phaseOver_20 : decode cX2_phaseOver 20 = .ok (.iload_n 2, 1) := by decide +kernel
theorem dX2_phaseOver_21 : decode cX2_phaseOver 21 = .ok (.aload_n 0, 1) := by decide +kernel
theorem dX2_phaseOver_22 : decode cX2_phaseOver 22 = .ok (.getfield 24, 3) := by decide +kernel
theorem dX2_phaseOver_25 : decode cX2_phaseOver 25 = .ok (.iload_n 3, 1) := by decide +kernel
theorem dX2_phaseOver_26 : decode cX2_phaseOver 26 = .ok (.iaload, 1) := by decide +kernel
theorem dX2_phaseOver_27 : decode cX2_phaseOver 27 = .ok (.iconst 1, 1) := by decide +kernel
theorem dX2_phaseOver_28 : decode cX2_phaseOver 28 = .ok (.iadd, 1) := by decide +kernel
theorem dX2_phaseOver_29 : decode cX2_phaseOver 29 = .ok (.invokestatic 52, 3) := by decide +kernel
theorem dX2_phaseOver_32 : decode cX2_phaseOver 32 = .ok (.istore_n 2, 1) := by decide +kernel
theorem dX2_phaseOver_33 : decode cX2_phaseOver 33 = .ok (.iinc 3 1, 3) := by decide +kernel
theorem dX2_phaseOver_36 : decode cX2_phaseOver 36 = .ok (.goto (-32), 3) := by decide +kernel
theorem dX2_phaseOver_39 : decode cX2_phaseOver 39 = .ok (.iload_n 2, 1) := by decide +kernel
theorem dX2_phaseOver_40 : decode cX2_phaseOver 40 = .ok (.ireturn, 1) := by decide +kernel
theorem dX2_phases_0 : decode cX2_phases 0 = .ok (.iconst 0, 1) := by decide +kernel
theorem dX2_phases_1 : decode cX2_phases 1 = .ok (.istore_n 1, 1) := by decide +kernel
theorem dX2_phases_2 : decode cX2_phases 2 = .ok (.iconst 0, 1) := by decide +kernel
theorem dX2_phases_3 : decode cX2_phases 3 = .ok (.istore_n 2, 1) := by decide +kernel
theorem dX2_phases_4 : decode cX2_phases 4 = .ok (.iload_n 2, 1) := by decide +kernel
theorem dX2_phases_5 : decode cX2_phases 5 = .ok (.aload_n 0, 1) := by decide +kernel
theorem dX2_phases_6 : decode cX2_phases 6 = .ok (.getfield 27, 3) := by decide +kernel
theorem dX2_phases_9 : decode cX2_phases 9 = .ok (.if_icmp .ge 22, 3) := by decide +kernel
theorem dX2_phases_12 : decode cX2_phases 12 = .ok (.iload_n 1, 1) := by decide +kernel
theorem dX2_phases_13 : decode cX2_phases 13 = .ok (.aload_n 0, 1) := by decide +kernel
theorem dX2_phases_14 : decode cX2_phases 14 = .ok (.getfield 24, 3) := by decide +kernel
theorem dX2_phases_17 : decode cX2_phases 17 = .ok (.iload_n 2, 1) := by decide +kernel
theorem dX2_phases_18 : decode cX2_phases 18 = .ok (.iaload, 1) := by decide +kernel
theorem dX2_phases_19 : decode cX2_phases 19 = .ok (.iconst 1, 1) := by decide +kernel
theorem dX2_phases_20 : decode cX2_phases 20 = .ok (.iadd, 1) := by decide +kernel
theorem dX2_phases_21 : decode cX2_phases 21 = .ok (.invokestatic 52, 3) := by decide +kernel
theorem dX2_phases_24 : decode cX2_phases 24 = .ok (.istore_n 1, 1) := by decide +kernel
theorem dX2_phases_25 : decode cX2_phases 25 = .ok (.iinc 2 1, 3) := by decide +kernel
theorem dX2_phases_28 : decode cX2_phases 28 = .ok (.goto (-24), 3) := by decide +kernel
theorem dX2_phases_31 : decode cX2_phases 31 = .ok (.iload_n 1, 1) := by decide +kernel
theorem dX2_phases_32 : decode cX2_phases 32 = .ok (.ireturn, 1) := by decide +kernel
set_option maxRecDepth 20000 in
theorem ggX2_pairs_J6_bitCount_0f7a4 : GoodIn wsX2_pairs wsJ6_bitCount_0f7a4 := goodIn_r _ [6, 7, 8, 9] (by decide +kernel) (by decide +kernel)
set_option maxRecDepth 20000 in
theorem gX2_pairs_J6_bitCount_0f7a4 : GoodIn wsX2_pairs (va_wsS RX2 58 yJ6_bitCount_0f7a4 wsJ6_bitCount_0f7a4) := goodIn_app (goodIn_of _ (by decide +kernel)) ggX2_pairs_J6_bitCount_0f7a4
theorem dX2_pairs_0 : decode cX2_pairs 0 = .ok (.iconst 0, 1) := by decide +kernel
theorem dX2_pairs_1 : decode cX2_pairs 1 = .ok (.istore_n 1, 1) := by decide +kernel
theorem dX2_pairs_2 : decode cX2_pairs 2 = .ok (.iconst 0, 1) := by decide +kernel
theorem dX2_pairs_3 : decode cX2_pairs 3 = .ok (.istore_n 2, 1) := by decide +kernel
theorem dX2_pairs_4 : decode cX2_pairs 4 = .ok (.iload_n 2, 1) := by decide +kernel
theorem dX2_pairs_5 : decode cX2_pairs 5 = .ok (.aload_n 0, 1) := by decide +kernel
theorem dX2_pairs_6 : decode cX2_pairs 6 = .ok (.getfield 27, 3) := by decide +kernel
theorem dX2_pairs_9 : decode cX2_pairs 9 = .ok (.if_icmp .ge 21, 3) := by decide +kernel
theorem dX2_pairs_12 : decode cX2_pairs 12 = .ok (.iload_n 1, 1) := by decide +kernel
theorem dX2_pairs_13 : decode cX2_pairs 13 = .ok (.aload_n 0, 1) := by decide +kernel
theorem dX2_pairs_14 : decode cX2_pairs 14 = .ok (.getfield 15, 3) := by decide +kernel
theorem dX2_pairs_17 : decode cX2_pairs 17 = .ok (.iload_n 2, 1) := by decide +kernel
theorem dX2_pairs_18 : decode cX2_pairs 18 = .ok (.iaload, 1) := by decide +kernel
theorem dX2_pairs_19 : decode cX2_pairs 19 = .ok (.invokestatic 58, 3) := by decide +kernel
theorem dX2_pairs_22 : decode cX2_pairs 22 = .ok (.iadd, 1) := by decide +kernel
theorem dX2_pairs_23 : decode cX2_pairs 23 = .ok (.istore_n 1, 1) := by decide +kernel
theorem dX2_pairs_24 : decode cX2_pairs 24 = .ok (.iinc 2 1, 3) := by decide +kernel
theorem dX2_pairs_27 : decode cX2_pairs 27 = .ok (.goto (-23), 3) := by decide +kernel
theorem dX2_pairs_30 : decode cX2_pairs 30 = .ok (.iload_n 1, 1) := by decide +kernel
theorem dX2_pairs_31 : decode cX2_pairs 31 = .ok (.ireturn, 1) := by decide +kernel
set_option maxRecDepth 20000 in
theorem ggX2_pairsMore_X3_has : GoodIn wsX2_pairsMore wsX3_has := goodIn_r _ [7] (by decide +kernel) (by decide +kernel)
set_option maxRecDepth 20000 in
theorem gX2_pairsMore_X3_has_n31 : GoodIn wsX2_pairsMore (wsX3_has) := ggX2_pairsMore_X3_has
set_option maxRecDepth 20000 in
theorem ggX2_pairsMore_J6_bitCount_0f7a4 : GoodIn wsX2_pairsMore wsJ6_bitCount_0f7a4 := goodIn_r _ [11, 12, 13, 14] (by decide +kernel) (by decide +kernel)
set_option maxRecDepth 20000 in
theorem gX2_pairsMore_J6_bitCount_0f7a4 : GoodIn wsX2_pairsMore (va_wsS RX2 58 yJ6_bitCount_0f7a4 wsJ6_bitCount_0f7a4) := goodIn_app (goodIn_of _ (by decide +kernel)) ggX2_pairsMore_J6_bitCount_0f7a4
theorem dX2_pairsMore_0 : decode cX2_pairsMore 0 = .ok (.aload_n 0, 1) := by decide +kernel
theorem dX2_pairsMore_1 : decode cX2_pairsMore 1 = .ok (.getfield 9, 3) := by decide +kernel
theorem dX2_pairsMore_4 : decode cX2_pairsMore 4 = .ok (.iload_n 1, 1) := by decide +kernel
theorem dX2_pairsMore_5 : decode cX2_pairsMore 5 = .ok (.iaload, 1) := by decide +kernel
theorem dX2_pairsMore_6 : decode cX2_pairsMore 6 = .ok (.aload_n 0, 1) := by decide +kernel
theorem dX2_pairsMore_7 : decode cX2_pairsMore 7 = .ok (.getfield 18, 3) := by decide +kernel
theorem dX2_pairsMore_10 : decode cX2_pairsMore 10 = .ok (.iload_n 1, 1) := by decide +kernel
theorem dX2_pairsMore_11 : decode cX2_pairsMore 11 = .ok (.iaload, 1) := by decide +kernel
theorem dX2_pairsMore_12 : decode cX2_pairsMore 12 = .ok (.ior, 1) := by decide +kernel
theorem dX2_pairsMore_13 : decode cX2_pairsMore 13 = .ok (.istore_n 3, 1) := by decide +kernel
theorem dX2_pairsMore_14 : decode cX2_pairsMore 14 = .ok (.aload_n 0, 1) := by decide +kernel
theorem dX2_pairsMore_15 : decode cX2_pairsMore 15 = .ok (.getfield 9, 3) := by decide +kernel
theorem dX2_pairsMore_18 : decode cX2_pairsMore 18 = .ok (.iload_n 2, 1) := by decide +kernel
theorem dX2_pairsMore_19 : decode cX2_pairsMore 19 = .ok (.iaload, 1) := by decide +kernel
theorem dX2_pairsMore_20 : decode cX2_pairsMore 20 = .ok (.aload_n 0, 1) := by decide +kernel
theorem dX2_pairsMore_21 : decode cX2_pairsMore 21 = .ok (.getfield 15, 3) := by decide +kernel
theorem dX2_pairsMore_24 : decode cX2_pairsMore 24 = .ok (.iload_n 2, 1) := by decide +kernel
theorem dX2_pairsMore_25 : decode cX2_pairsMore 25 = .ok (.iaload, 1) := by decide +kernel
theorem dX2_pairsMore_26 : decode cX2_pairsMore 26 = .ok (.ior, 1) := by decide +kernel
theorem dX2_pairsMore_27 : decode cX2_pairsMore 27 = .ok (.istore 4, 2) := by decide +kernel
theorem dX2_pairsMore_29 : decode cX2_pairsMore 29 = .ok (.iconst 0, 1) := by decide +kernel
theorem dX2_pairsMore_30 : decode cX2_pairsMore 30 = .ok (.istore 5, 2) := by decide +kernel
theorem dX2_pairsMore_32 : decode cX2_pairsMore 32 = .ok (.iconst 0, 1) := by decide +kernel
theorem dX2_pairsMore_33 : decode cX2_pairsMore 33 = .ok (.istore 6, 2) := by decide +kernel
theorem dX2_pairsMore_35 : decode cX2_pairsMore 35 = .ok (.iload 6, 2) := by decide +kernel
theorem dX2_pairsMore_37 : decode cX2_pairsMore 37 = .ok (.aload_n 0, 1) := by decide +kernel
theorem dX2_pairsMore_38 : decode cX2_pairsMore 38 = .ok (.getfield 27, 3) := by decide +kernel
theorem dX2_pairsMore_41 : decode cX2_pairsMore 41 = .ok (.if_icmp .ge 38, 3) := by decide +kernel
theorem dX2_pairsMore_44 : decode cX2_pairsMore 44 = .ok (.iload_n 3, 1) := by decide +kernel
theorem dX2_pairsMore_45 : decode cX2_pairsMore 45 = .ok (.iload 6, 2) := by decide +kernel
theorem dX2_pairsMore_47 : decode cX2_pairsMore 47 = .ok (.invokestatic 31, 3) := by decide +kernel
theorem dX2_pairsMore_50 : decode cX2_pairsMore 50 = .ok (.ifCond .eq 23, 3) := by decide +kernel
theorem dX2_pairsMore_53 : decode cX2_pairsMore 53 = .ok (.iload 5, 2) := by decide +kernel
theorem dX2_pairsMore_55 : decode cX2_pairsMore 55 = .ok (.iload 4, 2) := by decide +kernel
theorem dX2_pairsMore_57 : decode cX2_pairsMore 57 = .ok (.aload_n 0, 1) := by decide +kernel
theorem dX2_pairsMore_58 : decode cX2_pairsMore 58 = .ok (.getfield 15, 3) := by decide +kernel
theorem dX2_pairsMore_61 : decode cX2_pairsMore 61 = .ok (.iload 6, 2) := by decide +kernel
theorem dX2_pairsMore_63 : decode cX2_pairsMore 63 = .ok (.iaload, 1) := by decide +kernel
theorem dX2_pairsMore_64 : decode cX2_pairsMore 64 = .ok (.iconst (-1), 1) := by decide +kernel
theorem dX2_pairsMore_65 : decode cX2_pairsMore 65 = .ok (.ixor, 1) := by decide +kernel
theorem dX2_pairsMore_66 : decode cX2_pairsMore 66 = .ok (.iand, 1) := by decide +kernel
theorem dX2_pairsMore_67 : decode cX2_pairsMore 67 = .ok (.invokestatic 58, 3) := by decide +kernel
theorem dX2_pairsMore_70 : decode cX2_pairsMore 70 = .ok (.iadd, 1) := by decide +kernel
theorem dX2_pairsMore_71 : decode cX2_pairsMore 71 = .ok (.istore 5, 2) := by decide +kernel
theorem dX2_pairsMore_73 : decode cX2_pairsMore 73 = .ok (.iinc 6 1, 3) := by decide +kernel
theorem dX2_pairsMore_76 : decode cX2_pairsMore 76 = .ok (.goto (-41), 3) := by decide +kernel
theorem dX2_pairsMore_79 : decode cX2_pairsMore 79 = .ok (.iload 5, 2) := by decide +kernel
theorem dX2_pairsMore_81 : decode cX2_pairsMore 81 = .ok (.ireturn, 1) := by decide +kernel
theorem dX2_sorts_0 : decode cX2_sorts 0 = .ok (.iconst 0, 1) := by decide +kernel
theorem dX2_sorts_1 : decode cX2_sorts 1 = .ok (.istore_n 1, 1) := by decide +kernel
theorem dX2_sorts_2 : decode cX2_sorts 2 = .ok (.iconst 0, 1) := by decide +kernel
theorem dX2_sorts_3 : decode cX2_sorts 3 = .ok (.istore_n 2, 1) := by decide +kernel
theorem dX2_sorts_4 : decode cX2_sorts 4 = .ok (.iload_n 2, 1) := by decide +kernel
theorem dX2_sorts_5 : decode cX2_sorts 5 = .ok (.aload_n 0, 1) := by decide +kernel
theorem dX2_sorts_6 : decode cX2_sorts 6 = .ok (.getfield 27, 3) := by decide +kernel
theorem dX2_sorts_9 : decode cX2_sorts 9 = .ok (.if_icmp .ge 27, 3) := by decide +kernel
theorem dX2_sorts_12 : decode cX2_sorts 12 = .ok (.aload_n 0, 1) := by decide +kernel
theorem dX2_sorts_13 : decode cX2_sorts 13 = .ok (.getfield 9, 3) := by decide +kernel
theorem dX2_sorts_16 : decode cX2_sorts 16 = .ok (.iload_n 2, 1) := by decide +kernel
theorem dX2_sorts_17 : decode cX2_sorts 17 = .ok (.iaload, 1) := by decide +kernel
theorem dX2_sorts_18 : decode cX2_sorts 18 = .ok (.iconst 1, 1) := by decide +kernel
theorem dX2_sorts_19 : decode cX2_sorts 19 = .ok (.iload_n 2, 1) := by decide +kernel
theorem dX2_sorts_20 : decode cX2_sorts 20 = .ok (.ishl, 1) := by decide +kernel
theorem dX2_sorts_21 : decode cX2_sorts 21 = .ok (.iconst 1, 1) := by decide +kernel
theorem dX2_sorts_22 : decode cX2_sorts 22 = .ok (.isub, 1) := by decide +kernel
theorem dX2_sorts_23 : decode cX2_sorts 23 = .ok (.iand, 1) := by decide +kernel
theorem dX2_sorts_24 : decode cX2_sorts 24 = .ok (.ifCond .ne 6, 3) := by decide +kernel
theorem dX2_sorts_27 : decode cX2_sorts 27 = .ok (.iinc 1 1, 3) := by decide +kernel
theorem dX2_sorts_30 : decode cX2_sorts 30 = .ok (.iinc 2 1, 3) := by decide +kernel
theorem dX2_sorts_33 : decode cX2_sorts 33 = .ok (.goto (-29), 3) := by decide +kernel
theorem dX2_sorts_36 : decode cX2_sorts 36 = .ok (.iload_n 1, 1) := by decide +kernel
theorem dX2_sorts_37 : decode cX2_sorts 37 = .ok (.ireturn, 1) := by decide +kernel
end
section
set_option maxRecDepth 20000 in
theorem ggX3_init_X2_init : GoodIn wsX3_init wsX2_init := goodIn_r _ [18, 19, 2, 3, 20, 21, 22, 23, 24, 25, 36, 37, 38, 39, 40, 41] (by decide +kernel) (by decide +kernel)
set_option maxRecDepth 20000 in
theorem gX3_init_X2_init_n9 : GoodIn wsX3_init (wsX2_init) := ggX3_init_X2_init
set_option maxRecDepth 20000 in
theorem ggX3_init_X1_init : GoodIn wsX3_init wsX1_init := goodIn_r _ [27, 28, 2, 3, 20, 29, 46] (by decide +kernel) (by decide +kernel)
set_option maxRecDepth 20000 in
theorem gX3_init_X1_init_n18 : GoodIn wsX3_init (wsX1_init) := ggX3_init_X1_init
set_option maxRecDepth 20000 in
theorem ggX3_init_X0_init : GoodIn wsX3_init wsX0_init := goodIn_r _ [32, 33, 2, 3, 20, 34, 35, 47, 48, 49] (by decide +kernel) (by decide +kernel)
set_option maxRecDepth 20000 in
theorem gX3_init_X0_init : GoodIn wsX3_init (wsX0_init) := ggX3_init_X0_init
theorem dX3_init_0 : decode cX3_init 0 = .ok (.aload_n 0, 1) := by decide +kernel
theorem dX3_init_1 : decode cX3_init 1 = .ok (.invokespecial 1, 3) := by decide +kernel
theorem dX3_init_4 : decode cX3_init 4 = .ok (.aload_n 0, 1) := by decide +kernel
theorem dX3_init_5 : decode cX3_init 5 = .ok (.new 7, 3) := by decide +kernel
theorem dX3_init_8 : decode cX3_init 8 = .ok (.dup, 1) := by decide +kernel
theorem dX3_init_9 : decode cX3_init 9 = .ok (.invokespecial 9, 3) := by decide +kernel
theorem dX3_init_12 : decode cX3_init 12 = .ok (.putfield 10, 3) := by decide +kernel
theorem dX3_init_15 : decode cX3_init 15 = .ok (.aload_n 0, 1) := by decide +kernel
theorem dX3_init_16 : decode cX3_init 16 = .ok (.new 16, 3) := by decide +kernel
theorem dX3_init_19 : decode cX3_init 19 = .ok (.dup, 1) := by decide +kernel
theorem dX3_init_20 : decode cX3_init 20 = .ok (.invokespecial 18, 3) := by decide +kernel
theorem dX3_init_23 : decode cX3_init 23 = .ok (.putfield 19, 3) := by decide +kernel
theorem dX3_init_26 : decode cX3_init 26 = .ok (.aload_n 0, 1) := by decide +kernel
theorem dX3_init_27 : decode cX3_init 27 = .ok (.new 23, 3) := by decide +kernel
theorem dX3_init_30 : decode cX3_init 30 = .ok (.dup, 1) := by decide +kernel
theorem dX3_init_31 : decode cX3_init 31 = .ok (.invokespecial 25, 3) := by decide +kernel
theorem dX3_init_34 : decode cX3_init 34 = .ok (.putfield 26, 3) := by decide +kernel
theorem dX3_init_37 : decode cX3_init 37 = .ok (.aload_n 0, 1) := by decide +kernel
theorem dX3_init_38 : decode cX3_init 38 = .ok (.new 23, 3) := by decide +kernel
theorem dX3_init_41 : decode cX3_init 41 = .ok (.dup, 1) := by decide +kernel
theorem dX3_init_42 : decode cX3_init 42 = .ok (.invokespecial 25, 3) := by decide +kernel
theorem dX3_init_45 : decode cX3_init 45 = .ok (.putfield 30, 3) := by decide +kernel
theorem dX3_init_48 : decode cX3_init 48 = .ok (.return_, 1) := by decide +kernel
set_option maxRecDepth 20000 in
theorem ggX3_find_X2_size : GoodIn wsX3_find wsX2_size := goodIn_r _ [8, 9, 41, 42, 43, 44, 45, 46] (by decide +kernel) (by decide +kernel)
set_option maxRecDepth 20000 in
theorem gX3_find_X2_size : GoodIn wsX3_find (wsV RX3 33 RX2 yX2_size wsX2_size) := goodIn_app (goodIn_of _ (by decide +kernel)) ggX3_find_X2_size
set_option maxRecDepth 20000 in
theorem ggX3_find_X2_addLayer : GoodIn wsX3_find wsX2_addLayer := goodIn_r _ [13, 9, 14, 15, 16, 17, 7, 18, 19, 20, 21, 22, 23, 24, 25, 26, 27, 28, 29, 30, 31, 32, 33, 34, 35, 36, 41, 42, 43, 44, 45, 46] (by decide +kernel) (by decide +kernel)
set_option maxRecDepth 20000 in
theorem gX3_find_X2_addLayer : GoodIn wsX3_find (wsV RX3 44 RX2 yX2_addLayer wsX2_addLayer) := goodIn_app (goodIn_of _ (by decide +kernel)) ggX3_find_X2_addLayer
theorem dX3_find_0 : decode cX3_find 0 = .ok (.aload_n 0, 1) := by decide +kernel
theorem dX3_find_1 : decode cX3_find 1 = .ok (.getfield 10, 3) := by decide +kernel
theorem dX3_find_4 : decode cX3_find 4 = .ok (.invokevirtual 33, 3) := by decide +kernel
theorem dX3_find_7 : decode cX3_find 7 = .ok (.bipush 14, 2) := by decide +kernel
theorem dX3_find_9 : decode cX3_find 9 = .ok (.if_icmp .lt 13, 3) := by decide +kernel
theorem dX3_find_12 : decode cX3_find 12 = .ok (.new 37, 3) := by decide +kernel
theorem dX3_find_15 : decode cX3_find 15 = .ok (.dup, 1) := by decide +kernel
theorem dX3_find_16 : decode cX3_find 16 = .ok (.ldc 39, 2) := by decide +kernel
theorem dX3_find_18 : decode cX3_find 18 = .ok (.invokespecial 41, 3) := by decide +kernel
theorem dX3_find_21 : decode cX3_find 21 = .ok (.athrow, 1) := by decide +kernel
theorem dX3_find_22 : decode cX3_find 22 = .ok (.aload_n 0, 1) := by decide +kernel
theorem dX3_find_23 : decode cX3_find 23 = .ok (.getfield 10, 3) := by decide +kernel
theorem dX3_find_26 : decode cX3_find 26 = .ok (.invokevirtual 44, 3) := by decide +kernel
theorem dX3_find_29 : decode cX3_find 29 = .ok (.ireturn, 1) := by decide +kernel
set_option maxRecDepth 20000 in
theorem ggX3_above_X3_checkLayer : GoodIn wsX3_above wsX3_checkLayer := goodIn_ca (goodIn_r _ [8, 3, 9, 10, 11, 12, 13, 14, 15, 16, 7, 17, 18, 19, 70, 71, 72, 73, 74, 75, 76, 77, 78, 79] (by decide +kernel) (by decide +kernel)) (goodIn_sub (fun _ h => List.mem_cons_of_mem _ (List.mem_append_right _ h)) (by decide +kernel))
set_option maxRecDepth 20000 in
theorem gX3_above_X3_checkLayer : GoodIn wsX3_above (wsV RX3 47 RX3 yX3_checkLayer wsX3_checkLayer) := goodIn_app (goodIn_of _ (by decide +kernel)) ggX3_above_X3_checkLayer
set_option maxRecDepth 20000 in
theorem ggX3_above_X2_refusesAbove : GoodIn wsX3_above wsX2_refusesAbove := goodIn_r _ [23, 24, 25, 7, 26, 27, 28, 29, 12, 30, 31, 74, 75, 76, 77, 78, 79] (by decide +kernel) (by decide +kernel)
set_option maxRecDepth 20000 in
theorem gX3_above_X2_refusesAbove : GoodIn wsX3_above (wsV RX3 51 RX2 yX2_refusesAbove wsX2_refusesAbove) := goodIn_app (goodIn_of _ (by decide +kernel)) ggX3_above_X2_refusesAbove
set_option maxRecDepth 20000 in
theorem ggX3_above_X2_putAbove : GoodIn wsX3_above wsX2_putAbove := goodIn_r _ [35, 24, 36, 31, 37, 38, 39, 12, 40, 14, 25, 7, 26, 41, 42, 43, 44, 45, 46, 47, 48, 49, 50, 51, 52, 53, 54, 55, 56, 57, 58, 74, 75, 76, 77, 78, 79] (by decide +kernel) (by decide +kernel)
set_option maxRecDepth 20000 in
theorem gX3_above_X2_putAbove : GoodIn wsX3_above (wsV RX3 57 RX2 yX2_putAbove wsX2_putAbove) := goodIn_app (goodIn_of _ (by decide +kernel)) ggX3_above_X2_putAbove
set_option maxRecDepth 20000 in
theorem ggX3_above_X2_below : GoodIn wsX3_above wsX2_below := goodIn_r _ [62, 31, 74, 75, 76, 77, 78, 79] (by decide +kernel) (by decide +kernel)
set_option maxRecDepth 20000 in
theorem gX3_above_X2_below : GoodIn wsX3_above (wsV RX3 61 RX2 yX2_below wsX2_below) := goodIn_app (goodIn_of _ (by decide +kernel)) ggX3_above_X2_below
set_option maxRecDepth 20000 in
theorem ggX3_above_J6_bitCount_0f7a4 : GoodIn wsX3_above wsJ6_bitCount_0f7a4 := goodIn_r _ [66, 67, 68, 69] (by decide +kernel) (by decide +kernel)
set_option maxRecDepth 20000 in
theorem gX3_above_J6_bitCount_0f7a4 : GoodIn wsX3_above (va_wsS RX3 65 yJ6_bitCount_0f7a4 wsJ6_bitCount_0f7a4) := goodIn_app (goodIn_of _ (by decide +kernel)) ggX3_above_J6_bitCount_0f7a4
theorem dX3_above_0 : decode cX3_above 0 = .ok (.aload_n 0, 1) := by decide +kernel
theorem dX3_above_1 : decode cX3_above 1 = .ok (.iload_n 1, 1) := by decide +kernel
theorem dX3_above_2 : decode cX3_above 2 = .ok (.invokevirtual 47, 3) := by decide +kernel
theorem dX3_above_5 : decode cX3_above 5 = .ok (.aload_n 0, 1) := by decide +kernel
theorem dX3_above_6 : decode cX3_above 6 = .ok (.iload_n 2, 1) := by decide +kernel
theorem dX3_above_7 : decode cX3_above 7 = .ok (.invokevirtual 47, 3) := by decide +kernel
theorem dX3_above_10 : decode cX3_above 10 = .ok (.aload_n 0, 1) := by decide +kernel
theorem dX3_above_11 : decode cX3_above 11 = .ok (.getfield 10, 3) := by decide +kernel
theorem dX3_above_14 : decode cX3_above 14 = .ok (.iload_n 1, 1) := by decide +kernel
theorem dX3_above_15 : decode cX3_above 15 = .ok (.iload_n 2, 1) := by decide +kernel
theorem dX3_above_16 : decode cX3_above 16 = .ok (.invokevirtual 51, 3) := by decide +kernel
theorem dX3_above_19 : decode cX3_above 19 = .ok (.ifCond .eq 13, 3) := by decide +kernel
theorem dX3_above_22 : decode cX3_above 22 = .ok (.new 37, 3) := by decide +kernel
theorem dX3_above_25 : decode cX3_above 25 = .ok (.dup, 1) := by decide +kernel
theorem dX3_above_26 : decode cX3_above 26 = .ok (.ldc 55, 2) := by decide +kernel
theorem dX3_above_28 : decode cX3_above 28 = .ok (.invokespecial 41, 3) := by decide +kernel
theorem dX3_above_31 : decode cX3_above 31 = .ok (.athrow, 1) := by decide +kernel
theorem dX3_above_32 : decode cX3_above 32 = .ok (.aload_n 0, 1) := by decide +kernel
theorem dX3_above_33 : decode cX3_above 33 = .ok (.getfield 10, 3) := by decide +kernel
theorem dX3_above_36 : decode cX3_above 36 = .ok (.iload_n 1, 1) := by decide +kernel
theorem dX3_above_37 : decode cX3_above 37 = .ok (.iload_n 2, 1) := by decide +kernel
theorem dX3_above_38 : decode cX3_above 38 = .ok (.invokevirtual 57, 3) := by decide +kernel
theorem dX3_above_41 : decode cX3_above 41 = .ok (.aload_n 0, 1) := by decide +kernel
theorem dX3_above_42 : decode cX3_above 42 = .ok (.getfield 10, 3) := by decide +kernel
theorem dX3_above_45 : decode cX3_above 45 = .ok (.iload_n 1, 1) := by decide +kernel
theorem dX3_above_46 : decode cX3_above 46 = .ok (.invokevirtual 61, 3) := by decide +kernel
theorem dX3_above_49 : decode cX3_above 49 = .ok (.invokestatic 65, 3) := by decide +kernel
theorem dX3_above_52 : decode cX3_above 52 = .ok (.ireturn, 1) := by decide +kernel
set_option maxRecDepth 20000 in
theorem ggX3_same_X3_checkLayer : GoodIn wsX3_same wsX3_checkLayer := goodIn_ca (goodIn_r _ [8, 3, 9, 10, 11, 12, 13, 14, 15, 16, 7, 17, 18, 19, 66, 67, 68, 69, 70, 71, 72, 73, 74, 75] (by decide +kernel) (by decide +kernel)) (goodIn_sub (fun _ h => List.mem_cons_of_mem _ (List.mem_append_right _ h)) (by decide +kernel))
set_option maxRecDepth 20000 in
theorem gX3_same_X3_checkLayer : GoodIn wsX3_same (wsV RX3 47 RX3 yX3_checkLayer wsX3_checkLayer) := goodIn_app (goodIn_of _ (by decide +kernel)) ggX3_same_X3_checkLayer
set_option maxRecDepth 20000 in
theorem ggX3_same_X2_isLater : GoodIn wsX3_same wsX2_isLater := goodIn_r _ [23, 24, 25, 7, 26, 70, 71, 72, 73, 74, 75] (by decide +kernel) (by decide +kernel)
set_option maxRecDepth 20000 in
theorem gX3_same_X2_isLater : GoodIn wsX3_same (wsV RX3 70 RX2 yX2_isLater wsX2_isLater) := goodIn_app (goodIn_of _ (by decide +kernel)) ggX3_same_X2_isLater
set_option maxRecDepth 20000 in
theorem ggX3_same_X2_join : GoodIn wsX3_same wsX2_join := goodIn_r _ [30, 31, 24, 32, 14, 25, 7, 26, 33, 34, 35, 12, 36, 37, 38, 39, 40, 41, 42, 43, 44, 45, 46, 47, 48, 49, 50, 51, 52, 53, 54, 70, 71, 72, 73, 74, 75] (by decide +kernel) (by decide +kernel)
set_option maxRecDepth 20000 in
theorem gX3_same_X2_join : GoodIn wsX3_same (wsV RX3 75 RX2 yX2_join wsX2_join) := goodIn_app (goodIn_of _ (by decide +kernel)) ggX3_same_X2_join
set_option maxRecDepth 20000 in
theorem ggX3_same_X2_alike : GoodIn wsX3_same wsX2_alike := goodIn_r _ [58, 31, 70, 71, 72, 73, 74, 75] (by decide +kernel) (by decide +kernel)
set_option maxRecDepth 20000 in
theorem gX3_same_X2_alike : GoodIn wsX3_same (wsV RX3 78 RX2 yX2_alike wsX2_alike) := goodIn_app (goodIn_of _ (by decide +kernel)) ggX3_same_X2_alike
set_option maxRecDepth 20000 in
theorem ggX3_same_J6_bitCount_0f7a4 : GoodIn wsX3_same wsJ6_bitCount_0f7a4 := goodIn_r _ [62, 63, 64, 65] (by decide +kernel) (by decide +kernel)
set_option maxRecDepth 20000 in
theorem gX3_same_J6_bitCount_0f7a4 : GoodIn wsX3_same (va_wsS RX3 65 yJ6_bitCount_0f7a4 wsJ6_bitCount_0f7a4) := goodIn_app (goodIn_of _ (by decide +kernel)) ggX3_same_J6_bitCount_0f7a4
theorem dX3_same_0 : decode cX3_same 0 = .ok (.aload_n 0, 1) := by decide +kernel
theorem dX3_same_1 : decode cX3_same 1 = .ok (.iload_n 1, 1) := by decide +kernel
theorem dX3_same_2 : decode cX3_same 2 = .ok (.invokevirtual 47, 3) := by decide +kernel
theorem dX3_same_5 : decode cX3_same 5 = .ok (.aload_n 0, 1) := by decide +kernel
theorem dX3_same_6 : decode cX3_same 6 = .ok (.iload_n 2, 1) := by decide +kernel
theorem dX3_same_7 : decode cX3_same 7 = .ok (.invokevirtual 47, 3) := by decide +kernel
theorem dX3_same_10 : decode cX3_same 10 = .ok (.aload_n 0, 1) := by decide +kernel
theorem dX3_same_11 : decode cX3_same 11 = .ok (.getfield 10, 3) := by decide +kernel
theorem dX3_same_14 : decode cX3_same 14 = .ok (.iload_n 1, 1) := by decide +kernel
theorem dX3_same_15 : decode cX3_same 15 = .ok (.iload_n 2, 1) := by decide +kernel
theorem dX3_same_16 : decode cX3_same 16 = .ok (.invokevirtual 70, 3) := by decide +kernel
theorem dX3_same_19 : decode cX3_same 19 = .ok (.ifCond .ne 15, 3) := by decide +kernel
theorem dX3_same_22 : decode cX3_same 22 = .ok (.aload_n 0, 1) := by decide +kernel
theorem dX3_same_23 : decode cX3_same 23 = .ok (.getfield 10, 3) := by decide +kernel
theorem dX3_same_26 : decode cX3_same 26 = .ok (.iload_n 2, 1) := by decide +kernel
theorem dX3_same_27 : decode cX3_same 27 = .ok (.iload_n 1, 1) := by decide +kernel
theorem dX3_same_28 : decode cX3_same 28 = .ok (.invokevirtual 70, 3) := by decide +kernel
theorem dX3_same_31 : decode cX3_same 31 = .ok (.ifCond .eq 13, 3) := by decide +kernel
theorem dX3_same_34 : decode cX3_same 34 = .ok (.new 37, 3) := by decide +kernel
theorem dX3_same_37 : decode cX3_same 37 = .ok (.dup, 1) := by decide +kernel
theorem dX3_same_38 : decode cX3_same 38 = .ok (.ldc 73, 2) := by decide +kernel
theorem dX3_same_40 : decode cX3_same 40 = .ok (.invokespecial 41, 3) := by decide +kernel
theorem dX3_same_43 : decode cX3_same 43 = .ok (.athrow, 1) := by decide +kernel
theorem dX3_same_44 : decode cX3_same 44 = .ok (.aload_n 0, 1) := by decide +kernel
theorem dX3_same_45 : decode cX3_same 45 = .ok (.getfield 10, 3) := by decide +kernel
theorem dX3_same_48 : decode cX3_same 48 = .ok (.iload_n 1, 1) := by decide +kernel
theorem dX3_same_49 : decode cX3_same 49 = .ok (.iload_n 2, 1) := by decide +kernel
theorem dX3_same_50 : decode cX3_same 50 = .ok (.invokevirtual 75, 3) := by decide +kernel
theorem dX3_same_53 : decode cX3_same 53 = .ok (.aload_n 0, 1) := by decide +kernel
theorem dX3_same_54 : decode cX3_same 54 = .ok (.getfield 10, 3) := by decide +kernel
theorem dX3_same_57 : decode cX3_same 57 = .ok (.iload_n 1, 1) := by decide +kernel
theorem dX3_same_58 : decode cX3_same 58 = .ok (.invokevirtual 78, 3) := by decide +kernel
theorem dX3_same_61 : decode cX3_same 61 = .ok (.invokestatic 65, 3) := by decide +kernel
theorem dX3_same_64 : decode cX3_same 64 = .ok (.ireturn, 1) := by decide +kernel
set_option maxRecDepth 20000 in
theorem ggX3_sift_X3_checkLayer : GoodIn wsX3_sift wsX3_checkLayer := goodIn_ca (goodIn_r _ [8, 9, 10, 11, 12, 13, 14, 15, 16, 17, 7, 18, 19, 20, 30, 31, 32, 33, 34, 35, 36, 37, 38, 39] (by decide +kernel) (by decide +kernel)) (goodIn_sub (fun _ h => List.mem_cons_of_mem _ (List.mem_append_right _ h)) (by decide +kernel))
set_option maxRecDepth 20000 in
theorem gX3_sift_X3_checkLayer : GoodIn wsX3_sift (wsV RX3 47 RX3 yX3_checkLayer wsX3_checkLayer) := goodIn_app (goodIn_of _ (by decide +kernel)) ggX3_sift_X3_checkLayer
set_option maxRecDepth 20000 in
theorem ggX3_sift_X3_checkKind : GoodIn wsX3_sift wsX3_checkKind := goodIn_ca (goodIn_r _ [23, 16, 17, 7, 18, 19, 20] (by decide +kernel) (by decide +kernel)) (goodIn_sub (fun _ h => List.mem_cons_of_mem _ (List.mem_append_right _ h)) (by decide +kernel))
set_option maxRecDepth 20000 in
theorem gX3_sift_X3_checkKind : GoodIn wsX3_sift (va_wsS RX3 81 yX3_checkKind wsX3_checkKind) := goodIn_app (goodIn_of _ (by decide +kernel)) ggX3_sift_X3_checkKind
set_option maxRecDepth 20000 in
theorem ggX3_sift_X1_put : GoodIn wsX3_sift wsX1_put := goodIn_r _ [28, 29, 40] (by decide +kernel) (by decide +kernel)
set_option maxRecDepth 20000 in
theorem gX3_sift_X1_put : GoodIn wsX3_sift (wsV RX3 89 RX1 yX1_put wsX1_put) := goodIn_app (goodIn_of _ (by decide +kernel)) ggX3_sift_X1_put
theorem dX3_sift_0 : decode cX3_sift 0 = .ok (.aload_n 0, 1) := by decide +kernel
theorem dX3_sift_1 : decode cX3_sift 1 = .ok (.iload_n 1, 1) := by decide +kernel
theorem dX3_sift_2 : decode cX3_sift 2 = .ok (.invokevirtual 47, 3) := by decide +kernel
theorem dX3_sift_5 : decode cX3_sift 5 = .ok (.iload_n 2, 1) := by decide +kernel
theorem dX3_sift_6 : decode cX3_sift 6 = .ok (.invokestatic 81, 3) := by decide +kernel
theorem dX3_sift_9 : decode cX3_sift 9 = .ok (.iload_n 3, 1) := by decide +kernel
theorem dX3_sift_10 : decode cX3_sift 10 = .ok (.ifCond .lt 9, 3) := by decide +kernel
theorem dX3_sift_13 : decode cX3_sift 13 = .ok (.iload_n 3, 1) := by decide +kernel
theorem dX3_sift_14 : decode cX3_sift 14 = .ok (.bipush 99, 2) := by decide +kernel
theorem dX3_sift_16 : decode cX3_sift 16 = .ok (.if_icmp .le 13, 3) := by decide +kernel
theorem dX3_sift_19 : decode cX3_sift 19 = .ok (.new 84, 3) := by decide +kernel
theorem dX3_sift_22 : decode cX3_sift 22 = .ok (.dup, 1) := by decide +kernel
theorem dX3_sift_23 : decode cX3_sift 23 = .ok (.ldc 86, 2) := by decide +kernel
theorem dX3_sift_25 : decode cX3_sift 25 = .ok (.invokespecial 88, 3) := by decide +kernel
theorem dX3_sift_28 : decode cX3_sift 28 = .ok (.athrow, 1) := by decide +kernel
theorem dX3_sift_29 : decode cX3_sift 29 = .ok (.aload_n 0, 1) := by decide +kernel
theorem dX3_sift_30 : decode cX3_sift 30 = .ok (.getfield 19, 3) := by decide +kernel
theorem dX3_sift_33 : decode cX3_sift 33 = .ok (.iload_n 1, 1) := by decide +kernel
theorem dX3_sift_34 : decode cX3_sift 34 = .ok (.iload_n 2, 1) := by decide +kernel
theorem dX3_sift_35 : decode cX3_sift 35 = .ok (.iload_n 3, 1) := by decide +kernel
theorem dX3_sift_36 : decode cX3_sift 36 = .ok (.invokevirtual 89, 3) := by decide +kernel
theorem dX3_sift_39 : decode cX3_sift 39 = .ok (.ireturn, 1) := by decide +kernel
set_option maxRecDepth 20000 in
theorem ggX3_hearth_X3_checkLayer : GoodIn wsX3_hearth wsX3_checkLayer := goodIn_ca (goodIn_r _ [8, 9, 10, 11, 12, 13, 14, 15, 16, 17, 7, 18, 19, 20, 53, 54, 55, 56, 57, 58, 59, 60, 61, 62] (by decide +kernel) (by decide +kernel)) (goodIn_sub (fun _ h => List.mem_cons_of_mem _ (List.mem_append_right _ h)) (by decide +kernel))
set_option maxRecDepth 20000 in
theorem gX3_hearth_X3_checkLayer : GoodIn wsX3_hearth (wsV RX3 47 RX3 yX3_checkLayer wsX3_checkLayer) := goodIn_app (goodIn_of _ (by decide +kernel)) ggX3_hearth_X3_checkLayer
set_option maxRecDepth 20000 in
theorem ggX3_hearth_X0_put : GoodIn wsX3_hearth wsX0_put := goodIn_r _ [25, 26, 27, 28, 63, 64, 65] (by decide +kernel) (by decide +kernel)
set_option maxRecDepth 20000 in
theorem gX3_hearth_X0_put : GoodIn wsX3_hearth (wsV RX3 95 RX0 yX0_put wsX0_put) := goodIn_app (goodIn_of _ (by decide +kernel)) ggX3_hearth_X0_put
set_option maxRecDepth 20000 in
theorem ggX3_hearth_X3_firstYear : GoodIn wsX3_hearth wsX3_firstYear := goodIn_r _ [32, 9, 33, 34, 35, 13, 36, 37, 38, 39, 40, 41, 42, 43, 44, 45, 24, 46, 27, 47, 48, 49, 50, 51, 7, 52, 53, 54, 55, 56, 57, 58, 59, 60, 61, 62, 63, 64, 65] (by decide +kernel) (by decide +kernel)
set_option maxRecDepth 20000 in
theorem gX3_hearth_X3_firstYear : GoodIn wsX3_hearth (wsV RX3 98 RX3 yX3_firstYear wsX3_firstYear) := goodIn_app (goodIn_of _ (by decide +kernel)) ggX3_hearth_X3_firstYear
theorem dX3_hearth_0 : decode cX3_hearth 0 = .ok (.aload_n 0, 1) := by decide +kernel
theorem dX3_hearth_1 : decode cX3_hearth 1 = .ok (.iload_n 1, 1) := by decide +kernel
theorem dX3_hearth_2 : decode cX3_hearth 2 = .ok (.invokevirtual 47, 3) := by decide +kernel
theorem dX3_hearth_5 : decode cX3_hearth 5 = .ok (.iload_n 2, 1) := by decide +kernel
theorem dX3_hearth_6 : decode cX3_hearth 6 = .ok (.ifCond .lt 15, 3) := by decide +kernel
theorem dX3_hearth_9 : decode cX3_hearth 9 = .ok (.iload_n 3, 1) := by decide +kernel
theorem dX3_hearth_10 : decode cX3_hearth 10 = .ok (.sipush 9999, 3) := by decide +kernel
theorem dX3_hearth_13 : decode cX3_hearth 13 = .ok (.if_icmp .gt 8, 3) := by decide +kernel
theorem dX3_hearth_16 : decode cX3_hearth 16 = .ok (.iload_n 2, 1) := by decide +kernel
theorem dX3_hearth_17 : decode cX3_hearth 17 = .ok (.iload_n 3, 1) := by decide +kernel
theorem dX3_hearth_18 : decode cX3_hearth 18 = .ok (.if_icmp .le 13, 3) := by decide +kernel
theorem dX3_hearth_21 : decode cX3_hearth 21 = .ok (.new 84, 3) := by decide +kernel
theorem dX3_hearth_24 : decode cX3_hearth 24 = .ok (.dup, 1) := by decide +kernel
theorem dX3_hearth_25 : decode cX3_hearth 25 = .ok (.ldc 93, 2) := by decide +kernel
theorem dX3_hearth_27 : decode cX3_hearth 27 = .ok (.invokespecial 88, 3) := by decide +kernel
theorem dX3_hearth_30 : decode cX3_hearth 30 = .ok (.athrow, 1) := by decide +kernel
theorem dX3_hearth_31 : decode cX3_hearth 31 = .ok (.aload_n 0, 1) := by decide +kernel
theorem dX3_hearth_32 : decode cX3_hearth 32 = .ok (.getfield 26, 3) := by decide +kernel
theorem dX3_hearth_35 : decode cX3_hearth 35 = .ok (.iload_n 1, 1) := by decide +kernel
theorem dX3_hearth_36 : decode cX3_hearth 36 = .ok (.iload_n 2, 1) := by decide +kernel
theorem dX3_hearth_37 : decode cX3_hearth 37 = .ok (.iload_n 3, 1) := by decide +kernel
theorem dX3_hearth_38 : decode cX3_hearth 38 = .ok (.invokevirtual 95, 3) := by decide +kernel
theorem dX3_hearth_41 : decode cX3_hearth 41 = .ok (.aload_n 0, 1) := by decide +kernel
theorem dX3_hearth_42 : decode cX3_hearth 42 = .ok (.aload_n 0, 1) := by decide +kernel
theorem dX3_hearth_43 : decode cX3_hearth 43 = .ok (.getfield 26, 3) := by decide +kernel
theorem dX3_hearth_46 : decode cX3_hearth 46 = .ok (.iload_n 1, 1) := by decide +kernel
theorem dX3_hearth_47 : decode cX3_hearth 47 = .ok (.invokevirtual 98, 3) := by decide +kernel
theorem dX3_hearth_50 : decode cX3_hearth 50 = .ok (.ireturn, 1) := by decide +kernel
set_option maxRecDepth 20000 in
theorem ggX3_clear_X3_checkLayer : GoodIn wsX3_clear wsX3_checkLayer := goodIn_ca (goodIn_r _ [8, 9, 10, 11, 12, 13, 14, 15, 16, 17, 7, 18, 19, 20, 39, 40, 41, 42, 43, 44, 45, 46, 47, 48] (by decide +kernel) (by decide +kernel)) (goodIn_sub (fun _ h => List.mem_cons_of_mem _ (List.mem_append_right _ h)) (by decide +kernel))
set_option maxRecDepth 20000 in
theorem gX3_clear_X3_checkLayer : GoodIn wsX3_clear (wsV RX3 47 RX3 yX3_checkLayer wsX3_checkLayer) := goodIn_app (goodIn_of _ (by decide +kernel)) ggX3_clear_X3_checkLayer
set_option maxRecDepth 20000 in
theorem ggX3_clear_X0_isAt : GoodIn wsX3_clear wsX0_isAt := goodIn_r _ [25, 26, 27, 7, 28, 49, 50, 51] (by decide +kernel) (by decide +kernel)
set_option maxRecDepth 20000 in
theorem gX3_clear_X0_isAt : GoodIn wsX3_clear (wsV RX3 102 RX0 yX0_isAt wsX0_isAt) := goodIn_app (goodIn_of _ (by decide +kernel)) ggX3_clear_X0_isAt
set_option maxRecDepth 20000 in
theorem ggX3_clear_X0_firstAt : GoodIn wsX3_clear wsX0_firstAt := goodIn_r _ [32, 33, 49, 50, 51] (by decide +kernel) (by decide +kernel)
set_option maxRecDepth 20000 in
theorem gX3_clear_X0_firstAt : GoodIn wsX3_clear (wsV RX3 108 RX0 yX0_firstAt wsX0_firstAt) := goodIn_app (goodIn_of _ (by decide +kernel)) ggX3_clear_X0_firstAt
set_option maxRecDepth 20000 in
theorem ggX3_clear_X0_take : GoodIn wsX3_clear wsX0_take := goodIn_r _ [37, 26, 33, 38, 49, 50, 51] (by decide +kernel) (by decide +kernel)
set_option maxRecDepth 20000 in
theorem gX3_clear_X0_take : GoodIn wsX3_clear (wsV RX3 111 RX0 yX0_take wsX0_take) := goodIn_app (goodIn_of _ (by decide +kernel)) ggX3_clear_X0_take
theorem dX3_clear_0 : decode cX3_clear 0 = .ok (.aload_n 0, 1) := by decide +kernel
theorem dX3_clear_1 : decode cX3_clear 1 = .ok (.iload_n 1, 1) := by decide +kernel
theorem dX3_clear_2 : decode cX3_clear 2 = .ok (.invokevirtual 47, 3) := by decide +kernel
theorem dX3_clear_5 : decode cX3_clear 5 = .ok (.aload_n 0, 1) := by decide +kernel
theorem dX3_clear_6 : decode cX3_clear 6 = .ok (.getfield 26, 3) := by decide +kernel
theorem dX3_clear_9 : decode cX3_clear 9 = .ok (.iload_n 1, 1) := by decide +kernel
theorem dX3_clear_10 : decode cX3_clear 10 = .ok (.invokevirtual 102, 3) := by decide +kernel
theorem dX3_clear_13 : decode cX3_clear 13 = .ok (.ifCond .ne 13, 3) := by decide +kernel
theorem dX3_clear_16 : decode cX3_clear 16 = .ok (.new 37, 3) := by decide +kernel
theorem dX3_clear_19 : decode cX3_clear 19 = .ok (.dup, 1) := by decide +kernel
theorem dX3_clear_20 : decode cX3_clear 20 = .ok (.ldc 106, 2) := by decide +kernel
theorem dX3_clear_22 : decode cX3_clear 22 = .ok (.invokespecial 41, 3) := by decide +kernel
theorem dX3_clear_25 : decode cX3_clear 25 = .ok (.athrow, 1) := by decide +kernel
theorem dX3_clear_26 : decode cX3_clear 26 = .ok (.aload_n 0, 1) := by decide +kernel
theorem dX3_clear_27 : decode cX3_clear 27 = .ok (.getfield 26, 3) := by decide +kernel
theorem dX3_clear_30 : decode cX3_clear 30 = .ok (.iload_n 1, 1) := by decide +kernel
theorem dX3_clear_31 : decode cX3_clear 31 = .ok (.invokevirtual 108, 3) := by decide +kernel
theorem dX3_clear_34 : decode cX3_clear 34 = .ok (.istore_n 2, 1) := by decide +kernel
theorem dX3_clear_35 : decode cX3_clear 35 = .ok (.aload_n 0, 1) := by decide +kernel
theorem dX3_clear_36 : decode cX3_clear 36 = .ok (.getfield 26, 3) := by decide +kernel
theorem dX3_clear_39 : decode cX3_clear 39 = .ok (.iload_n 1, 1) := by decide +kernel
theorem dX3_clear_40 : decode cX3_clear 40 = .ok (.invokevirtual 111, 3) := by decide +kernel
theorem dX3_clear_43 : decode cX3_clear 43 = .ok (.iload_n 2, 1) := by decide +kernel
theorem dX3_clear_44 : decode cX3_clear 44 = .ok (.ireturn, 1) := by decide +kernel
set_option maxRecDepth 20000 in
theorem ggX3_later_X3_checkLayer : GoodIn wsX3_later wsX3_checkLayer := goodIn_ca (goodIn_r _ [6, 1, 7, 8, 9, 10, 11, 12, 13, 14, 5, 15, 16, 17, 25, 26, 27, 28, 29, 30, 31, 32, 33, 34] (by decide +kernel) (by decide +kernel)) (goodIn_sub (fun _ h => List.mem_cons_of_mem _ (List.mem_append_right _ h)) (by decide +kernel))
set_option maxRecDepth 20000 in
theorem gX3_later_X3_checkLayer : GoodIn wsX3_later (wsV RX3 47 RX3 yX3_checkLayer wsX3_checkLayer) := goodIn_app (goodIn_of _ (by decide +kernel)) ggX3_later_X3_checkLayer
set_option maxRecDepth 20000 in
theorem ggX3_later_X2_isLater : GoodIn wsX3_later wsX2_isLater := goodIn_r _ [21, 22, 23, 5, 24, 29, 30, 31, 32, 33, 34] (by decide +kernel) (by decide +kernel)
set_option maxRecDepth 20000 in
theorem gX3_later_X2_isLater : GoodIn wsX3_later (wsV RX3 70 RX2 yX2_isLater wsX2_isLater) := goodIn_app (goodIn_of _ (by decide +kernel)) ggX3_later_X2_isLater
theorem dX3_later_0 : decode cX3_later 0 = .ok (.aload_n 0, 1) := by decide +kernel
theorem dX3_later_1 : decode cX3_later 1 = .ok (.iload_n 1, 1) := by decide +kernel
theorem dX3_later_2 : decode cX3_later 2 = .ok (.invokevirtual 47, 3) := by decide +kernel
theorem dX3_later_5 : decode cX3_later 5 = .ok (.aload_n 0, 1) := by decide +kernel
theorem dX3_later_6 : decode cX3_later 6 = .ok (.iload_n 2, 1) := by decide +kernel
theorem dX3_later_7 : decode cX3_later 7 = .ok (.invokevirtual 47, 3) := by decide +kernel
theorem dX3_later_10 : decode cX3_later 10 = .ok (.aload_n 0, 1) := by decide +kernel
theorem dX3_later_11 : decode cX3_later 11 = .ok (.getfield 10, 3) := by decide +kernel
theorem dX3_later_14 : decode cX3_later 14 = .ok (.iload_n 1, 1) := by decide +kernel
theorem dX3_later_15 : decode cX3_later 15 = .ok (.iload_n 2, 1) := by decide +kernel
theorem dX3_later_16 : decode cX3_later 16 = .ok (.invokevirtual 70, 3) := by decide +kernel
theorem dX3_later_19 : decode cX3_later 19 = .ok (.ireturn, 1) := by decide +kernel
set_option maxRecDepth 20000 in
theorem ggX3_told_X3_checkLayer : GoodIn wsX3_told wsX3_checkLayer := goodIn_ca (goodIn_r _ [5, 6, 7, 8, 9, 10, 11, 12, 13, 14, 4, 15, 16, 17, 105, 106, 107, 108, 109, 110, 111, 112, 113, 114] (by decide +kernel) (by decide +kernel)) (goodIn_sub (fun _ h => List.mem_cons_of_mem _ (List.mem_append_right _ h)) (by decide +kernel))
set_option maxRecDepth 20000 in
theorem gX3_told_X3_checkLayer : GoodIn wsX3_told (wsV RX3 47 RX3 yX3_checkLayer wsX3_checkLayer) := goodIn_app (goodIn_of _ (by decide +kernel)) ggX3_told_X3_checkLayer
set_option maxRecDepth 20000 in
theorem ggX3_told_X3_checkIndex : GoodIn wsX3_told wsX3_checkIndex := goodIn_ca (goodIn_r _ [15, 16, 17] (by decide +kernel) (by decide +kernel)) (goodIn_sub (fun _ h => List.mem_cons_of_mem _ (List.mem_append_right _ h)) (by decide +kernel))
set_option maxRecDepth 20000 in
theorem gX3_told_X3_checkIndex : GoodIn wsX3_told (va_wsS RX3 114 yX3_checkIndex wsX3_checkIndex) := goodIn_app (goodIn_of _ (by decide +kernel)) ggX3_told_X3_checkIndex
set_option maxRecDepth 20000 in
theorem ggX3_told_X3_toldOf : GoodIn wsX3_told wsX3_toldOf := goodIn_r _ [21, 22, 6, 23, 24, 25, 4, 26, 27, 28, 29, 10, 30, 31, 32, 33, 34, 35, 36, 37, 38, 39, 40, 41, 42, 43, 44, 45, 46, 47, 48, 49, 50, 51, 52, 53, 54, 55, 56, 57, 58, 59, 60, 61, 62, 63, 64, 65, 66, 67, 68, 69, 70, 71, 72, 73, 74, 75, 76, 77, 78, 79, 80, 81, 82, 83, 84, 85, 86, 87, 88, 89, 90, 91, 92, 93, 94, 95, 96, 97, 98, 99, 100, 101, 102, 103, 104, 105, 106, 107, 108, 109, 110, 111, 112, 113, 114, 115, 116, 117, 118] (by decide +kernel) (by decide +kernel)
set_option maxRecDepth 20000 in
theorem gX3_told_X3_toldOf : GoodIn wsX3_told (wsV RX3 117 RX3 yX3_toldOf wsX3_toldOf) := goodIn_app (goodIn_of _ (by decide +kernel)) ggX3_told_X3_toldOf
theorem dX3_told_0 : decode cX3_told 0 = .ok (.aload_n 0, 1) := by decide +kernel
theorem dX3_told_1 : decode cX3_told 1 = .ok (.iload_n 1, 1) := by decide +kernel
theorem dX3_told_2 : decode cX3_told 2 = .ok (.invokevirtual 47, 3) := by decide +kernel
theorem dX3_told_5 : decode cX3_told 5 = .ok (.iload_n 2, 1) := by decide +kernel
theorem dX3_told_6 : decode cX3_told 6 = .ok (.bipush 9, 2) := by decide +kernel
theorem dX3_told_8 : decode cX3_told 8 = .ok (.invokestatic 114, 3) := by decide +kernel
theorem dX3_told_11 : decode cX3_told 11 = .ok (.aload_n 0, 1) := by decide +kernel
theorem dX3_told_12 : decode cX3_told 12 = .ok (.iload_n 1, 1) := by decide +kernel
theorem dX3_told_13 : decode cX3_told 13 = .ok (.iload_n 2, 1) := by decide +kernel
theorem dX3_told_14 : decode cX3_told 14 = .ok (.invokevirtual 117, 3) := by decide +kernel
theorem dX3_told_17 : decode cX3_told 17 = .ok (.ireturn, 1) := by decide +kernel
set_option maxRecDepth 20000 in
theorem ggX3_finds_X3_checkLayer : GoodIn wsX3_finds wsX3_checkLayer := goodIn_ca (goodIn_r _ [5, 6, 7, 8, 9, 10, 11, 12, 13, 14, 4, 15, 16, 17, 39, 40, 41, 42, 43, 44, 45, 46, 47, 48] (by decide +kernel) (by decide +kernel)) (goodIn_sub (fun _ h => List.mem_cons_of_mem _ (List.mem_append_right _ h)) (by decide +kernel))
set_option maxRecDepth 20000 in
theorem gX3_finds_X3_checkLayer : GoodIn wsX3_finds (wsV RX3 47 RX3 yX3_checkLayer wsX3_checkLayer) := goodIn_app (goodIn_of _ (by decide +kernel)) ggX3_finds_X3_checkLayer
set_option maxRecDepth 20000 in
theorem ggX3_finds_X3_checkKind : GoodIn wsX3_finds wsX3_checkKind := goodIn_ca (goodIn_r _ [20, 13, 14, 4, 15, 16, 17] (by decide +kernel) (by decide +kernel)) (goodIn_sub (fun _ h => List.mem_cons_of_mem _ (List.mem_append_right _ h)) (by decide +kernel))
set_option maxRecDepth 20000 in
theorem gX3_finds_X3_checkKind : GoodIn wsX3_finds (va_wsS RX3 81 yX3_checkKind wsX3_checkKind) := goodIn_app (goodIn_of _ (by decide +kernel)) ggX3_finds_X3_checkKind
set_option maxRecDepth 20000 in
theorem ggX3_finds_X3_findsOf : GoodIn wsX3_finds wsX3_findsOf := goodIn_r _ [24, 25, 6, 26, 27, 28, 10, 29, 30, 31, 32, 33, 34, 35, 36, 37, 4, 38, 39, 40, 41, 42, 43, 44, 45, 46, 47, 48, 49] (by decide +kernel) (by decide +kernel)
set_option maxRecDepth 20000 in
theorem gX3_finds_X3_findsOf : GoodIn wsX3_finds (wsV RX3 121 RX3 yX3_findsOf wsX3_findsOf) := goodIn_app (goodIn_of _ (by decide +kernel)) ggX3_finds_X3_findsOf
theorem dX3_finds_0 : decode cX3_finds 0 = .ok (.aload_n 0, 1) := by decide +kernel
theorem dX3_finds_1 : decode cX3_finds 1 = .ok (.iload_n 1, 1) := by decide +kernel
theorem dX3_finds_2 : decode cX3_finds 2 = .ok (.invokevirtual 47, 3) := by decide +kernel
theorem dX3_finds_5 : decode cX3_finds 5 = .ok (.iload_n 2, 1) := by decide +kernel
theorem dX3_finds_6 : decode cX3_finds 6 = .ok (.invokestatic 81, 3) := by decide +kernel
theorem dX3_finds_9 : decode cX3_finds 9 = .ok (.aload_n 0, 1) := by decide +kernel
theorem dX3_finds_10 : decode cX3_finds 10 = .ok (.iload_n 1, 1) := by decide +kernel
theorem dX3_finds_11 : decode cX3_finds 11 = .ok (.iload_n 2, 1) := by decide +kernel
theorem dX3_finds_12 : decode cX3_finds 12 = .ok (.invokevirtual 121, 3) := by decide +kernel
theorem dX3_finds_15 : decode cX3_finds 15 = .ok (.ireturn, 1) := by decide +kernel
set_option maxRecDepth 20000 in
theorem ggX3_order_X2_size : GoodIn wsX3_order wsX2_size := goodIn_r _ [6, 7, 23, 24, 25, 26, 27, 28] (by decide +kernel) (by decide +kernel)
set_option maxRecDepth 20000 in
theorem gX3_order_X2_size : GoodIn wsX3_order (wsV RX3 33 RX2 yX2_size wsX2_size) := goodIn_app (goodIn_of _ (by decide +kernel)) ggX3_order_X2_size
set_option maxRecDepth 20000 in
theorem ggX3_order_X3_checkIndex : GoodIn wsX3_order wsX3_checkIndex := goodIn_ca (goodIn_r _ [11, 12, 13] (by decide +kernel) (by decide +kernel)) (goodIn_sub (fun _ h => List.mem_cons_of_mem _ (List.mem_append_right _ h)) (by decide +kernel))
set_option maxRecDepth 20000 in
theorem gX3_order_X3_checkIndex : GoodIn wsX3_order (va_wsS RX3 114 yX3_checkIndex wsX3_checkIndex) := goodIn_app (goodIn_of _ (by decide +kernel)) ggX3_order_X3_checkIndex
set_option maxRecDepth 20000 in
theorem ggX3_order_X2_placed : GoodIn wsX3_order wsX2_placed := goodIn_r _ [17, 18, 23, 24, 25, 26, 27, 28] (by decide +kernel) (by decide +kernel)
set_option maxRecDepth 20000 in
theorem gX3_order_X2_placed : GoodIn wsX3_order (wsV RX3 124 RX2 yX2_placed wsX2_placed) := goodIn_app (goodIn_of _ (by decide +kernel)) ggX3_order_X2_placed
theorem dX3_order_0 : decode cX3_order 0 = .ok (.iload_n 1, 1) := by decide +kernel
theorem dX3_order_1 : decode cX3_order 1 = .ok (.aload_n 0, 1) := by decide +kernel
theorem dX3_order_2 : decode cX3_order 2 = .ok (.getfield 10, 3) := by decide +kernel
theorem dX3_order_5 : decode cX3_order 5 = .ok (.invokevirtual 33, 3) := by decide +kernel
theorem dX3_order_8 : decode cX3_order 8 = .ok (.invokestatic 114, 3) := by decide +kernel
theorem dX3_order_11 : decode cX3_order 11 = .ok (.aload_n 0, 1) := by decide +kernel
theorem dX3_order_12 : decode cX3_order 12 = .ok (.getfield 10, 3) := by decide +kernel
theorem dX3_order_15 : decode cX3_order 15 = .ok (.iload_n 1, 1) := by decide +kernel
theorem dX3_order_16 : decode cX3_order 16 = .ok (.invokevirtual 124, 3) := by decide +kernel
theorem dX3_order_19 : decode cX3_order 19 = .ok (.ireturn, 1) := by decide +kernel
set_option maxRecDepth 20000 in
theorem ggX3_between_X3_checkLayer : GoodIn wsX3_between wsX3_checkLayer := goodIn_ca (goodIn_r _ [6, 1, 7, 8, 9, 10, 11, 12, 13, 14, 5, 15, 16, 17, 41, 42, 43, 44, 45, 46, 47, 48, 49, 50] (by decide +kernel) (by decide +kernel)) (goodIn_sub (fun _ h => List.mem_cons_of_mem _ (List.mem_append_right _ h)) (by decide +kernel))
set_option maxRecDepth 20000 in
theorem gX3_between_X3_checkLayer : GoodIn wsX3_between (wsV RX3 47 RX3 yX3_checkLayer wsX3_checkLayer) := goodIn_app (goodIn_of _ (by decide +kernel)) ggX3_between_X3_checkLayer
set_option maxRecDepth 20000 in
theorem ggX3_between_X2_isLater : GoodIn wsX3_between wsX2_isLater := goodIn_r _ [21, 22, 23, 5, 24, 45, 46, 47, 48, 49, 50] (by decide +kernel) (by decide +kernel)
set_option maxRecDepth 20000 in
theorem gX3_between_X2_isLater : GoodIn wsX3_between (wsV RX3 70 RX2 yX2_isLater wsX2_isLater) := goodIn_app (goodIn_of _ (by decide +kernel)) ggX3_between_X2_isLater
set_option maxRecDepth 20000 in
theorem ggX3_between_X2_below : GoodIn wsX3_between wsX2_below := goodIn_r _ [28, 22, 45, 46, 47, 48, 49, 50] (by decide +kernel) (by decide +kernel)
set_option maxRecDepth 20000 in
theorem gX3_between_X2_below : GoodIn wsX3_between (wsV RX3 61 RX2 yX2_below wsX2_below) := goodIn_app (goodIn_of _ (by decide +kernel)) ggX3_between_X2_below
set_option maxRecDepth 20000 in
theorem ggX3_between_X2_onTop : GoodIn wsX3_between wsX2_onTop := goodIn_r _ [32, 33, 45, 46, 47, 48, 49, 50] (by decide +kernel) (by decide +kernel)
set_option maxRecDepth 20000 in
theorem gX3_between_X2_onTop : GoodIn wsX3_between (wsV RX3 127 RX2 yX2_onTop wsX2_onTop) := goodIn_app (goodIn_of _ (by decide +kernel)) ggX3_between_X2_onTop
set_option maxRecDepth 20000 in
theorem ggX3_between_J6_bitCount_0f7a4 : GoodIn wsX3_between wsJ6_bitCount_0f7a4 := goodIn_r _ [37, 38, 39, 40] (by decide +kernel) (by decide +kernel)
set_option maxRecDepth 20000 in
theorem gX3_between_J6_bitCount_0f7a4 : GoodIn wsX3_between (va_wsS RX3 65 yJ6_bitCount_0f7a4 wsJ6_bitCount_0f7a4) := goodIn_app (goodIn_of _ (by decide +kernel)) ggX3_between_J6_bitCount_0f7a4
theorem dX3_between_0 : decode cX3_between 0 = .ok (.aload_n 0, 1) := by decide +kernel
theorem dX3_between_1 : decode cX3_between 1 = .ok (.iload_n 1, 1) := by decide +kernel
theorem dX3_between_2 : decode cX3_between 2 = .ok (.invokevirtual 47, 3) := by decide +kernel
theorem dX3_between_5 : decode cX3_between 5 = .ok (.aload_n 0, 1) := by decide +kernel
theorem dX3_between_6 : decode cX3_between 6 = .ok (.iload_n 2, 1) := by decide +kernel
theorem dX3_between_7 : decode cX3_between 7 = .ok (.invokevirtual 47, 3) := by decide +kernel
theorem dX3_between_10 : decode cX3_between 10 = .ok (.aload_n 0, 1) := by decide +kernel
theorem dX3_between_11 : decode cX3_between 11 = .ok (.getfield 10, 3) := by decide +kernel
theorem dX3_between_14 : decode cX3_between 14 = .ok (.iload_n 1, 1) := by decide +kernel
theorem dX3_between_15 : decode cX3_between 15 = .ok (.iload_n 2, 1) := by decide +kernel
theorem dX3_between_16 : decode cX3_between 16 = .ok (.invokevirtual 70, 3) := by decide +kernel
theorem dX3_between_19 : decode cX3_between 19 = .ok (.ifCond .eq 24, 3) := by decide +kernel
theorem dX3_between_22 : decode cX3_between 22 = .ok (.aload_n 0, 1) := by decide +kernel
theorem dX3_between_23 : decode cX3_between 23 = .ok (.getfield 10, 3) := by decide +kernel
theorem dX3_between_26 : decode cX3_between 26 = .ok (.iload_n 1, 1) := by decide +kernel
theorem dX3_between_27 : decode cX3_between 27 = .ok (.invokevirtual 61, 3) := by decide +kernel
theorem dX3_between_30 : decode cX3_between 30 = .ok (.aload_n 0, 1) := by decide +kernel
theorem dX3_between_31 : decode cX3_between 31 = .ok (.getfield 10, 3) := by decide +kernel
theorem dX3_between_34 : decode cX3_between 34 = .ok (.iload_n 2, 1) := by decide +kernel
theorem dX3_between_35 : decode cX3_between 35 = .ok (.invokevirtual 127, 3) := by decide +kernel
theorem dX3_between_38 : decode cX3_between 38 = .ok (.iand, 1) := by decide +kernel
theorem dX3_between_39 : decode cX3_between 39 = .ok (.invokestatic 65, 3) := by decide +kernel
theorem dX3_between_42 : decode cX3_between 42 = .ok (.ireturn, 1) := by decide +kernel
theorem dX3_between_43 : decode cX3_between 43 = .ok (.aload_n 0, 1) := by decide +kernel
theorem dX3_between_44 : decode cX3_between 44 = .ok (.getfield 10, 3) := by decide +kernel
theorem dX3_between_47 : decode cX3_between 47 = .ok (.iload_n 2, 1) := by decide +kernel
theorem dX3_between_48 : decode cX3_between 48 = .ok (.iload_n 1, 1) := by decide +kernel
theorem dX3_between_49 : decode cX3_between 49 = .ok (.invokevirtual 70, 3) := by decide +kernel
theorem dX3_between_52 : decode cX3_between 52 = .ok (.ifCond .eq 24, 3) := by decide +kernel
theorem dX3_between_55 : decode cX3_between 55 = .ok (.aload_n 0, 1) := by decide +kernel
theorem dX3_between_56 : decode cX3_between 56 = .ok (.getfield 10, 3) := by decide +kernel
theorem dX3_between_59 : decode cX3_between 59 = .ok (.iload_n 2, 1) := by decide +kernel
theorem dX3_between_60 : decode cX3_between 60 = .ok (.invokevirtual 61, 3) := by decide +kernel
theorem dX3_between_63 : decode cX3_between 63 = .ok (.aload_n 0, 1) := by decide +kernel
theorem dX3_between_64 : decode cX3_between 64 = .ok (.getfield 10, 3) := by decide +kernel
theorem dX3_between_67 : decode cX3_between 67 = .ok (.iload_n 1, 1) := by decide +kernel
theorem dX3_between_68 : decode cX3_between 68 = .ok (.invokevirtual 127, 3) := by decide +kernel
theorem dX3_between_71 : decode cX3_between 71 = .ok (.iand, 1) := by decide +kernel
theorem dX3_between_72 : decode cX3_between 72 = .ok (.invokestatic 65, 3) := by decide +kernel
theorem dX3_between_75 : decode cX3_between 75 = .ok (.ireturn, 1) := by decide +kernel
theorem dX3_between_76 : decode cX3_between 76 = .ok (.iconst (-1), 1) := by decide +kernel
theorem dX3_between_77 : decode cX3_between 77 = .ok (.ireturn, 1) := by decide +kernel
set_option maxRecDepth 20000 in
theorem ggX3_count_X3_checkIndex : GoodIn wsX3_count wsX3_checkIndex := goodIn_ca (goodIn_r _ [4, 5, 6] (by decide +kernel) (by decide +kernel)) (goodIn_sub (fun _ h => List.mem_cons_of_mem _ (List.mem_append_right _ h)) (by decide +kernel))
set_option maxRecDepth 20000 in
theorem gX3_count_X3_checkIndex : GoodIn wsX3_count (va_wsS RX3 114 yX3_checkIndex wsX3_checkIndex) := goodIn_app (goodIn_of _ (by decide +kernel)) ggX3_count_X3_checkIndex
set_option maxRecDepth 20000 in
theorem ggX3_count_X3_counted : GoodIn wsX3_count wsX3_counted := goodIn_r _ [10, 11, 12, 13, 14, 15, 16, 17, 18, 19, 20, 21, 22, 23, 24, 25, 26, 27, 28, 29, 30, 31, 3, 32, 33, 34, 35, 36, 37, 38, 39, 40, 41, 42, 43, 44, 45, 46, 47, 48, 49, 50, 51, 52, 53, 54, 55, 56, 57, 58, 59, 60, 61, 62, 63, 64, 65, 66, 67, 68, 69, 70, 71, 72, 73, 74, 75, 76, 77, 78, 79, 80, 81, 82, 83, 84, 85, 86, 87, 88, 89, 90, 91, 92, 93, 94, 95, 96, 97, 98, 99, 100, 101, 102, 103, 104, 105, 106, 107, 108, 109, 110, 111, 112, 113, 114, 115, 116, 117] (by decide +kernel) (by decide +kernel)
set_option maxRecDepth 20000 in
theorem gX3_count_X3_counted : GoodIn wsX3_count (wsV RX3 130 RX3 yX3_counted wsX3_counted) := goodIn_app (goodIn_of _ (by decide +kernel)) ggX3_count_X3_counted
theorem dX3_count_0 : decode cX3_count 0 = .ok (.iload_n 1, 1) := by decide +kernel
theorem dX3_count_1 : decode cX3_count 1 = .ok (.bipush 7, 2) := by decide +kernel
theorem dX3_count_3 : decode cX3_count 3 = .ok (.invokestatic 114, 3) := by decide +kernel
theorem dX3_count_6 : decode cX3_count 6 = .ok (.aload_n 0, 1) := by decide +kernel
theorem dX3_count_7 : decode cX3_count 7 = .ok (.iload_n 1, 1) := by decide +kernel
theorem dX3_count_8 : decode cX3_count 8 = .ok (.invokevirtual 130, 3) := by decide +kernel
theorem dX3_count_11 : decode cX3_count 11 = .ok (.ireturn, 1) := by decide +kernel
set_option maxRecDepth 20000 in
theorem ggX3_blame_X3_doubtfulLayers : GoodIn wsX3_blame wsX3_doubtfulLayers := goodIn_r _ [8, 2, 9, 10, 11, 12, 13, 14, 15, 16, 17, 7, 18, 19, 20, 21, 22, 23, 24, 25, 26, 27, 28, 29, 30, 31, 32, 33, 34, 35, 36, 37, 38, 39, 40, 41, 42, 43, 44, 45, 46, 47, 48, 49, 50, 51, 52, 53, 54, 55, 56, 57, 58, 59, 60, 61, 71, 72, 73, 74, 75, 76, 77, 78, 79, 80, 81, 82, 83] (by decide +kernel) (by decide +kernel)
set_option maxRecDepth 20000 in
theorem gX3_blame_X3_doubtfulLayers : GoodIn wsX3_blame (wsV RX3 133 RX3 yX3_doubtfulLayers wsX3_doubtfulLayers) := goodIn_app (goodIn_of _ (by decide +kernel)) ggX3_blame_X3_doubtfulLayers
set_option maxRecDepth 20000 in
theorem ggX3_blame_X2_size : GoodIn wsX3_blame wsX2_size := goodIn_r _ [13, 14, 75, 76, 77, 78, 79, 80] (by decide +kernel) (by decide +kernel)
set_option maxRecDepth 20000 in
theorem gX3_blame_X2_size : GoodIn wsX3_blame (wsV RX3 33 RX2 yX2_size wsX2_size) := goodIn_app (goodIn_of _ (by decide +kernel)) ggX3_blame_X2_size
set_option maxRecDepth 20000 in
theorem ggX3_blame_X0_copy : GoodIn wsX3_blame wsX0_copy := goodIn_r _ [65, 66, 38, 58, 81, 82, 83] (by decide +kernel) (by decide +kernel)
set_option maxRecDepth 20000 in
theorem gX3_blame_X0_copy : GoodIn wsX3_blame (wsV RX3 137 RX0 yX0_copy wsX0_copy) := goodIn_app (goodIn_of _ (by decide +kernel)) ggX3_blame_X0_copy
set_option maxRecDepth 20000 in
theorem ggX3_blame_X0_take : GoodIn wsX3_blame wsX0_take := goodIn_r _ [70, 66, 38, 58, 81, 82, 83] (by decide +kernel) (by decide +kernel)
set_option maxRecDepth 20000 in
theorem gX3_blame_X0_take : GoodIn wsX3_blame (wsV RX3 111 RX0 yX0_take wsX0_take) := goodIn_app (goodIn_of _ (by decide +kernel)) ggX3_blame_X0_take
theorem dX3_blame_0 : decode cX3_blame 0 = .ok (.iconst (-1), 1) := by decide +kernel
theorem dX3_blame_1 : decode cX3_blame 1 = .ok (.istore_n 1, 1) := by decide +kernel
theorem dX3_blame_2 : decode cX3_blame 2 = .ok (.aload_n 0, 1) := by decide +kernel
theorem dX3_blame_3 : decode cX3_blame 3 = .ok (.aload_n 0, 1) := by decide +kernel
theorem dX3_blame_4 : decode cX3_blame 4 = .ok (.getfield 26, 3) := by decide +kernel
theorem dX3_blame_7 : decode cX3_blame 7 = .ok (.invokevirtual 133, 3) := by decide +kernel
theorem dX3_blame_10 : decode cX3_blame 10 = .ok (.istore_n 2, 1) := by decide +kernel
theorem dX3_blame_11 : decode cX3_blame 11 = .ok (.iconst 0, 1) := by decide +kernel
theorem dX3_blame_12 : decode cX3_blame 12 = .ok (.istore_n 3, 1) := by decide +kernel
theorem dX3_blame_13 : decode cX3_blame 13 = .ok (.iload_n 3, 1) := by decide +kernel
theorem dX3_blame_14 : decode cX3_blame 14 = .ok (.aload_n 0, 1) := by decide +kernel
theorem dX3_blame_15 : decode cX3_blame 15 = .ok (.getfield 10, 3) := by decide +kernel
theorem dX3_blame_18 : decode cX3_blame 18 = .ok (.invokevirtual 33, 3) := by decide +kernel
theorem dX3_blame_21 : decode cX3_blame 21 = .ok (.if_icmp .ge 49, 3) := by decide +kernel
theorem dX3_blame_24 : decode cX3_blame 24 = .ok (.aload_n 0, 1) := by decide +kernel
theorem dX3_blame_25 : decode cX3_blame 25 = .ok (.getfield 30, 3) := by decide +kernel
theorem dX3_blame_28 : decode cX3_blame 28 = .ok (.aload_n 0, 1) := by decide +kernel
theorem dX3_blame_29 : decode cX3_blame 29 = .ok (.getfield 26, 3) := by decide +kernel
theorem dX3_blame_32 : decode cX3_blame 32 = .ok (.invokevirtual 137, 3) := by decide +kernel
theorem dX3_blame_35 : decode cX3_blame 35 = .ok (.aload_n 0, 1) := by decide +kernel
theorem dX3_blame_36 : decode cX3_blame 36 = .ok (.getfield 30, 3) := by decide +kernel
theorem dX3_blame_39 : decode cX3_blame 39 = .ok (.iload_n 3, 1) := by decide +kernel
theorem dX3_blame_40 : decode cX3_blame 40 = .ok (.invokevirtual 111, 3) := by decide +kernel
theorem dX3_blame_43 : decode cX3_blame 43 = .ok (.aload_n 0, 1) := by decide +kernel
theorem dX3_blame_44 : decode cX3_blame 44 = .ok (.aload_n 0, 1) := by decide +kernel
theorem dX3_blame_45 : decode cX3_blame 45 = .ok (.getfield 30, 3) := by decide +kernel
theorem dX3_blame_48 : decode cX3_blame 48 = .ok (.invokevirtual 133, 3) := by decide +kernel
theorem dX3_blame_51 : decode cX3_blame 51 = .ok (.istore 4, 2) := by decide +kernel
theorem dX3_blame_53 : decode cX3_blame 53 = .ok (.iload 4, 2) := by decide +kernel
theorem dX3_blame_55 : decode cX3_blame 55 = .ok (.iload_n 2, 1) := by decide +kernel
theorem dX3_blame_56 : decode cX3_blame 56 = .ok (.if_icmp .ge 8, 3) := by decide +kernel
theorem dX3_blame_59 : decode cX3_blame 59 = .ok (.iload 4, 2) := by decide +kernel
theorem dX3_blame_61 : decode cX3_blame 61 = .ok (.istore_n 2, 1) := by decide +kernel
theorem dX3_blame_62 : decode cX3_blame 62 = .ok (.iload_n 3, 1) := by decide +kernel
theorem dX3_blame_63 : decode cX3_blame 63 = .ok (.istore_n 1, 1) := by decide +kernel
theorem dX3_blame_64 : decode cX3_blame 64 = .ok (.iinc 3 1, 3) := by decide +kernel
theorem dX3_blame_67 : decode cX3_blame 67 = .ok (.goto (-54), 3) := by decide +kernel
theorem dX3_blame_70 : decode cX3_blame 70 = .ok (.iload_n 1, 1) := by decide +kernel
theorem dX3_blame_71 : decode cX3_blame 71 = .ok (.ireturn, 1) := by decide +kernel
set_option maxRecDepth 20000 in
theorem ggX3_narrows_X3_checkLayer : GoodIn wsX3_narrows wsX3_checkLayer := goodIn_ca (goodIn_r _ [10, 5, 11, 12, 13, 14, 15, 16, 17, 18, 9, 19, 20, 21, 82, 83, 84, 85, 86, 87, 88, 89, 90, 91] (by decide +kernel) (by decide +kernel)) (goodIn_sub (fun _ h => List.mem_cons_of_mem _ (List.mem_append_right _ h)) (by decide +kernel))
set_option maxRecDepth 20000 in
theorem gX3_narrows_X3_checkLayer : GoodIn wsX3_narrows (wsV RX3 47 RX3 yX3_checkLayer wsX3_checkLayer) := goodIn_app (goodIn_of _ (by decide +kernel)) ggX3_narrows_X3_checkLayer
set_option maxRecDepth 20000 in
theorem ggX3_narrows_X0_copy : GoodIn wsX3_narrows wsX0_copy := goodIn_r _ [26, 27, 28, 29, 92, 93, 94] (by decide +kernel) (by decide +kernel)
set_option maxRecDepth 20000 in
theorem gX3_narrows_X0_copy : GoodIn wsX3_narrows (wsV RX3 137 RX0 yX0_copy wsX0_copy) := goodIn_app (goodIn_of _ (by decide +kernel)) ggX3_narrows_X0_copy
set_option maxRecDepth 20000 in
theorem ggX3_narrows_X0_put : GoodIn wsX3_narrows wsX0_put := goodIn_r _ [33, 27, 28, 29, 92, 93, 94] (by decide +kernel) (by decide +kernel)
set_option maxRecDepth 20000 in
theorem gX3_narrows_X0_put : GoodIn wsX3_narrows (wsV RX3 95 RX0 yX0_put wsX0_put) := goodIn_app (goodIn_of _ (by decide +kernel)) ggX3_narrows_X0_put
set_option maxRecDepth 20000 in
theorem ggX3_narrows_X2_size : GoodIn wsX3_narrows wsX2_size := goodIn_r _ [15, 16, 86, 87, 88, 89, 90, 91] (by decide +kernel) (by decide +kernel)
set_option maxRecDepth 20000 in
theorem gX3_narrows_X2_size : GoodIn wsX3_narrows (wsV RX3 33 RX2 yX2_size wsX2_size) := goodIn_app (goodIn_of _ (by decide +kernel)) ggX3_narrows_X2_size
set_option maxRecDepth 20000 in
theorem ggX3_narrows_X3_isDoubtful : GoodIn wsX3_narrows wsX3_isDoubtful := goodIn_r _ [37, 38, 39, 40, 9, 41, 5, 42, 43, 44, 14, 45, 46, 47, 48, 49, 50, 51, 52, 53, 54, 25, 55, 28, 56, 57, 58, 59, 60, 61, 62, 63, 64, 65, 66, 67, 68, 69, 70, 71, 72, 73, 74, 29, 75, 76, 77, 82, 83, 84, 85, 86, 87, 88, 89, 90, 91, 92, 93, 94] (by decide +kernel) (by decide +kernel)
set_option maxRecDepth 20000 in
theorem gX3_narrows_X3_isDoubtful : GoodIn wsX3_narrows (wsV RX3 143 RX3 yX3_isDoubtful wsX3_isDoubtful) := goodIn_app (goodIn_of _ (by decide +kernel)) ggX3_narrows_X3_isDoubtful
set_option maxRecDepth 20000 in
theorem ggX3_narrows_X3_span : GoodIn wsX3_narrows wsX3_span := goodIn_r _ [81, 62, 63, 64, 9, 65, 5, 42, 43, 44, 14, 45, 46, 66, 67, 68, 69, 70, 71, 72, 73, 25, 74, 29, 75, 76, 58, 77, 60, 61, 38, 39, 40, 41, 47, 48, 49, 50, 51, 52, 53, 54, 55, 28, 56, 57, 59, 82, 83, 84, 85, 86, 87, 88, 89, 90, 91, 92, 93, 94] (by decide +kernel) (by decide +kernel)
set_option maxRecDepth 20000 in
theorem gX3_narrows_X3_span : GoodIn wsX3_narrows (wsV RX3 147 RX3 yX3_span wsX3_span) := goodIn_app (goodIn_of _ (by decide +kernel)) ggX3_narrows_X3_span
theorem dX3_narrows_0 : decode cX3_narrows 0 = .ok (.aload_n 0, 1) := by decide +kernel
theorem dX3_narrows_1 : decode cX3_narrows 1 = .ok (.iload_n 1, 1) := by decide +kernel
theorem dX3_narrows_2 : decode cX3_narrows 2 = .ok (.invokevirtual 47, 3) := by decide +kernel
theorem dX3_narrows_5 : decode cX3_narrows 5 = .ok (.iload_n 2, 1) := by decide +kernel
theorem dX3_narrows_6 : decode cX3_narrows 6 = .ok (.ifCond .lt 10, 3) := by decide +kernel
theorem dX3_narrows_9 : decode cX3_narrows 9 = .ok (.iload_n 2, 1) := by decide +kernel
theorem dX3_narrows_10 : decode cX3_narrows 10 = .ok (.sipush 9999, 3) := by decide +kernel
theorem dX3_narrows_13 : decode cX3_narrows 13 = .ok (.if_icmp .le 13, 3) := by decide +kernel
theorem dX3_narrows_16 : decode cX3_narrows 16 = .ok (.new 84, 3) := by decide +kernel
theorem dX3_narrows_19 : decode cX3_narrows 19 = .ok (.dup, 1) := by decide +kernel
theorem dX3_narrows_20 : decode cX3_narrows 20 = .ok (.ldc 141, 2) := by decide +kernel
theorem dX3_narrows_22 : decode cX3_narrows 22 = .ok (.invokespecial 88, 3) := by decide +kernel
theorem dX3_narrows_25 : decode cX3_narrows 25 = .ok (.athrow, 1) := by decide +kernel
theorem dX3_narrows_26 : decode cX3_narrows 26 = .ok (.aload_n 0, 1) := by decide +kernel
theorem dX3_narrows_27 : decode cX3_narrows 27 = .ok (.getfield 30, 3) := by decide +kernel
theorem dX3_narrows_30 : decode cX3_narrows 30 = .ok (.aload_n 0, 1) := by decide +kernel
theorem dX3_narrows_31 : decode cX3_narrows 31 = .ok (.getfield 26, 3) := by decide +kernel
theorem dX3_narrows_34 : decode cX3_narrows 34 = .ok (.invokevirtual 137, 3) := by decide +kernel
theorem dX3_narrows_37 : decode cX3_narrows 37 = .ok (.aload_n 0, 1) := by decide +kernel
theorem dX3_narrows_38 : decode cX3_narrows 38 = .ok (.getfield 30, 3) := by decide +kernel
theorem dX3_narrows_41 : decode cX3_narrows 41 = .ok (.iload_n 1, 1) := by decide +kernel
theorem dX3_narrows_42 : decode cX3_narrows 42 = .ok (.iload_n 2, 1) := by decide +kernel
theorem dX3_narrows_43 : decode cX3_narrows 43 = .ok (.iload_n 2, 1) := by decide +kernel
theorem dX3_narrows_44 : decode cX3_narrows 44 = .ok (.invokevirtual 95, 3) := by decide +kernel
theorem dX3_narrows_47 : decode cX3_narrows 47 = .ok (.iconst 0, 1) := by decide +kernel
theorem dX3_narrows_48 : decode cX3_narrows 48 = .ok (.istore_n 3, 1) := by decide +kernel
theorem dX3_narrows_49 : decode cX3_narrows 49 = .ok (.iconst 0, 1) := by decide +kernel
theorem dX3_narrows_50 : decode cX3_narrows 50 = .ok (.istore 4, 2) := by decide +kernel
theorem dX3_narrows_52 : decode cX3_narrows 52 = .ok (.iload 4, 2) := by decide +kernel
theorem dX3_narrows_54 : decode cX3_narrows 54 = .ok (.aload_n 0, 1) := by decide +kernel
theorem dX3_narrows_55 : decode cX3_narrows 55 = .ok (.getfield 10, 3) := by decide +kernel
theorem dX3_narrows_58 : decode cX3_narrows 58 = .ok (.invokevirtual 33, 3) := by decide +kernel
theorem dX3_narrows_61 : decode cX3_narrows 61 = .ok (.if_icmp .ge 59, 3) := by decide +kernel
theorem dX3_narrows_64 : decode cX3_narrows 64 = .ok (.aload_n 0, 1) := by decide +kernel
theorem dX3_narrows_65 : decode cX3_narrows 65 = .ok (.aload_n 0, 1) := by decide +kernel
theorem dX3_narrows_66 : decode cX3_narrows 66 = .ok (.getfield 26, 3) := by decide +kernel
theorem dX3_narrows_69 : decode cX3_narrows 69 = .ok (.iload 4, 2) := by decide +kernel
theorem dX3_narrows_71 : decode cX3_narrows 71 = .ok (.invokevirtual 143, 3) := by decide +kernel
theorem dX3_narrows_74 : decode cX3_narrows 74 = .ok (.ifCond .ne 40, 3) := by decide +kernel
theorem dX3_narrows_77 : decode cX3_narrows 77 = .ok (.aload_n 0, 1) := by decide +kernel
theorem dX3_narrows_78 : decode cX3_narrows 78 = .ok (.aload_n 0, 1) := by decide +kernel
theorem dX3_narrows_79 : decode cX3_narrows 79 = .ok (.getfield 30, 3) := by decide +kernel
theorem dX3_narrows_82 : decode cX3_narrows 82 = .ok (.iload 4, 2) := by decide +kernel
theorem dX3_narrows_84 : decode cX3_narrows 84 = .ok (.invokevirtual 143, 3) := by decide +kernel
theorem dX3_narrows_87 : decode cX3_narrows 87 = .ok (.ifCond .ne 27, 3) := by decide +kernel
theorem dX3_narrows_90 : decode cX3_narrows 90 = .ok (.iload_n 3, 1) := by decide +kernel
theorem dX3_narrows_91 : decode cX3_narrows 91 = .ok (.aload_n 0, 1) := by decide +kernel
theorem dX3_narrows_92 : decode cX3_narrows 92 = .ok (.aload_n 0, 1) := by decide +kernel
theorem dX3_narrows_93 : decode cX3_narrows 93 = .ok (.getfield 26, 3) := by decide +kernel
theorem dX3_narrows_96 : decode cX3_narrows 96 = .ok (.iload 4, 2) := by decide +kernel
theorem dX3_narrows_98 : decode cX3_narrows 98 = .ok (.invokevirtual 147, 3) := by decide +kernel
theorem dX3_narrows_101 : decode cX3_narrows 101 = .ok (.aload_n 0, 1) := by decide +kernel
theorem dX3_narrows_102 : decode cX3_narrows 102 = .ok (.aload_n 0, 1) := by decide +kernel
theorem dX3_narrows_103 : decode cX3_narrows 103 = .ok (.getfield 30, 3) := by decide +kernel
theorem dX3_narrows_106 : decode cX3_narrows 106 = .ok (.iload 4, 2) := by decide +kernel
theorem dX3_narrows_108 : decode cX3_narrows 108 = .ok (.invokevirtual 147, 3) := by decide +kernel
theorem dX3_narrows_111 : decode cX3_narrows 111 = .ok (.isub, 1) := by decide +kernel
theorem dX3_narrows_112 : decode cX3_narrows 112 = .ok (.iadd, 1) := by decide +kernel
theorem dX3_narrows_113 : decode cX3_narrows 113 = .ok (.istore_n 3, 1) := by decide +kernel
theorem dX3_narrows_114 : decode cX3_narrows 114 = .ok (.iinc 4 1, 3) := by decide +kernel
theorem dX3_narrows_117 : decode cX3_narrows 117 = .ok (.goto (-65), 3) := by decide +kernel
theorem dX3_narrows_120 : decode cX3_narrows 120 = .ok (.iload_n 3, 1) := by decide +kernel
theorem dX3_narrows_121 : decode cX3_narrows 121 = .ok (.ireturn, 1) := by decide +kernel
set_option maxRecDepth 20000 in
theorem ggX3_tells_X3_checkLayer : GoodIn wsX3_tells wsX3_checkLayer := goodIn_ca (goodIn_r _ [6, 1, 7, 8, 9, 10, 11, 12, 13, 14, 5, 15, 16, 17, 42, 43, 44, 45, 46, 47, 48, 49, 50, 51] (by decide +kernel) (by decide +kernel)) (goodIn_sub (fun _ h => List.mem_cons_of_mem _ (List.mem_append_right _ h)) (by decide +kernel))
set_option maxRecDepth 20000 in
theorem gX3_tells_X3_checkLayer : GoodIn wsX3_tells (wsV RX3 47 RX3 yX3_checkLayer wsX3_checkLayer) := goodIn_app (goodIn_of _ (by decide +kernel)) ggX3_tells_X3_checkLayer
set_option maxRecDepth 20000 in
theorem ggX3_tells_X2_refusesAbove : GoodIn wsX3_tells wsX2_refusesAbove := goodIn_r _ [21, 22, 23, 5, 24, 25, 26, 27, 10, 28, 29, 46, 47, 48, 49, 50, 51] (by decide +kernel) (by decide +kernel)
set_option maxRecDepth 20000 in
theorem gX3_tells_X2_refusesAbove : GoodIn wsX3_tells (wsV RX3 51 RX2 yX2_refusesAbove wsX2_refusesAbove) := goodIn_app (goodIn_of _ (by decide +kernel)) ggX3_tells_X2_refusesAbove
set_option maxRecDepth 20000 in
theorem ggX3_tells_X2_pairsMore : GoodIn wsX3_tells wsX2_pairsMore := goodIn_r _ [33, 22, 34, 29, 12, 23, 5, 24, 35, 36, 37, 38, 39, 40, 41, 46, 47, 48, 49, 50, 51] (by decide +kernel) (by decide +kernel)
set_option maxRecDepth 20000 in
theorem gX3_tells_X2_pairsMore : GoodIn wsX3_tells (wsV RX3 150 RX2 yX2_pairsMore wsX2_pairsMore) := goodIn_app (goodIn_of _ (by decide +kernel)) ggX3_tells_X2_pairsMore
theorem dX3_tells_0 : decode cX3_tells 0 = .ok (.aload_n 0, 1) := by decide +kernel
theorem dX3_tells_1 : decode cX3_tells 1 = .ok (.iload_n 1, 1) := by decide +kernel
theorem dX3_tells_2 : decode cX3_tells 2 = .ok (.invokevirtual 47, 3) := by decide +kernel
theorem dX3_tells_5 : decode cX3_tells 5 = .ok (.aload_n 0, 1) := by decide +kernel
theorem dX3_tells_6 : decode cX3_tells 6 = .ok (.iload_n 2, 1) := by decide +kernel
theorem dX3_tells_7 : decode cX3_tells 7 = .ok (.invokevirtual 47, 3) := by decide +kernel
theorem dX3_tells_10 : decode cX3_tells 10 = .ok (.aload_n 0, 1) := by decide +kernel
theorem dX3_tells_11 : decode cX3_tells 11 = .ok (.getfield 10, 3) := by decide +kernel
theorem dX3_tells_14 : decode cX3_tells 14 = .ok (.iload_n 1, 1) := by decide +kernel
theorem dX3_tells_15 : decode cX3_tells 15 = .ok (.iload_n 2, 1) := by decide +kernel
theorem dX3_tells_16 : decode cX3_tells 16 = .ok (.invokevirtual 51, 3) := by decide +kernel
theorem dX3_tells_19 : decode cX3_tells 19 = .ok (.ifCond .eq 7, 3) := by decide +kernel
theorem dX3_tells_22 : decode cX3_tells 22 = .ok (.iconst (-1), 1) := by decide +kernel
theorem dX3_tells_23 : decode cX3_tells 23 = .ok (.goto 12, 3) := by decide +kernel
theorem dX3_tells_26 : decode cX3_tells 26 = .ok (.aload_n 0, 1) := by decide +kernel
theorem dX3_tells_27 : decode cX3_tells 27 = .ok (.getfield 10, 3) := by decide +kernel
theorem dX3_tells_30 : decode cX3_tells 30 = .ok (.iload_n 1, 1) := by decide +kernel
theorem dX3_tells_31 : decode cX3_tells 31 = .ok (.iload_n 2, 1) := by decide +kernel
theorem dX3_tells_32 : decode cX3_tells 32 = .ok (.invokevirtual 150, 3) := by decide +kernel
theorem dX3_tells_35 : decode cX3_tells 35 = .ok (.ireturn, 1) := by decide +kernel
set_option maxRecDepth 20000 in
theorem ggX3_mean_X2_size : GoodIn wsX3_mean wsX2_size := goodIn_r _ [6, 7, 17, 18, 19, 20, 21, 22] (by decide +kernel) (by decide +kernel)
set_option maxRecDepth 20000 in
theorem gX3_mean_X2_size : GoodIn wsX3_mean (wsV RX3 33 RX2 yX2_size wsX2_size) := goodIn_app (goodIn_of _ (by decide +kernel)) ggX3_mean_X2_size
set_option maxRecDepth 20000 in
theorem ggX3_mean_X2_phase : GoodIn wsX3_mean wsX2_phase := goodIn_r _ [11, 12, 17, 18, 19, 20, 21, 22] (by decide +kernel) (by decide +kernel)
set_option maxRecDepth 20000 in
theorem gX3_mean_X2_phase : GoodIn wsX3_mean (wsV RX3 153 RX2 yX2_phase wsX2_phase) := goodIn_app (goodIn_of _ (by decide +kernel)) ggX3_mean_X2_phase
theorem dX3_mean_0 : decode cX3_mean 0 = .ok (.aload_n 0, 1) := by decide +kernel
theorem dX3_mean_1 : decode cX3_mean 1 = .ok (.getfield 10, 3) := by decide +kernel
theorem dX3_mean_4 : decode cX3_mean 4 = .ok (.invokevirtual 33, 3) := by decide +kernel
theorem dX3_mean_7 : decode cX3_mean 7 = .ok (.istore_n 1, 1) := by decide +kernel
theorem dX3_mean_8 : decode cX3_mean 8 = .ok (.iload_n 1, 1) := by decide +kernel
theorem dX3_mean_9 : decode cX3_mean 9 = .ok (.ifCond .ne 5, 3) := by decide +kernel
theorem dX3_mean_12 : decode cX3_mean 12 = .ok (.dconst 0, 1) := by decide +kernel
theorem dX3_mean_13 : decode cX3_mean 13 = .ok (.dreturn, 1) := by decide +kernel
theorem dX3_mean_14 : decode cX3_mean 14 = .ok (.iconst 0, 1) := by decide +kernel
theorem dX3_mean_15 : decode cX3_mean 15 = .ok (.istore_n 2, 1) := by decide +kernel
theorem dX3_mean_16 : decode cX3_mean 16 = .ok (.iconst 0, 1) := by decide +kernel
theorem dX3_mean_17 : decode cX3_mean 17 = .ok (.istore_n 3, 1) := by decide +kernel
theorem dX3_mean_18 : decode cX3_mean 18 = .ok (.iload_n 3, 1) := by decide +kernel
theorem dX3_mean_19 : decode cX3_mean 19 = .ok (.iload_n 1, 1) := by decide +kernel
theorem dX3_mean_20 : decode cX3_mean 20 = .ok (.if_icmp .ge 20, 3) := by decide +kernel
theorem dX3_mean_23 : decode cX3_mean 23 = .ok (.iload_n 2, 1) := by decide +kernel
theorem dX3_mean_24 : decode cX3_mean 24 = .ok (.aload_n 0, 1) := by decide +kernel
theorem dX3_mean_25 : decode cX3_mean 25 = .ok (.getfield 10, 3) := by decide +kernel
theorem dX3_mean_28 : decode cX3_mean 28 = .ok (.iload_n 3, 1) := by decide +kernel
theorem dX3_mean_29 : decode cX3_mean 29 = .ok (.invokevirtual 153, 3) := by decide +kernel
theorem dX3_mean_32 : decode cX3_mean 32 = .ok (.iadd, 1) := by decide +kernel
theorem dX3_mean_33 : decode cX3_mean 33 = .ok (.istore_n 2, 1) := by decide +kernel
theorem dX3_mean_34 : decode cX3_mean 34 = .ok (.iinc 3 1, 3) := by decide +kernel
theorem dX3_mean_37 : decode cX3_mean 37 = .ok (.goto (-19), 3) := by decide +kernel
theorem dX3_mean_40 : decode cX3_mean 40 = .ok (.iload_n 2, 1) := by decide +kernel
theorem dX3_mean_41 : decode cX3_mean 41 = .ok (.i2d, 1) := by decide +kernel
theorem dX3_mean_42 : decode cX3_mean 42 = .ok (.iload_n 1, 1) := by decide +kernel
theorem dX3_mean_43 : decode cX3_mean 43 = .ok (.i2d, 1) := by decide +kernel
theorem dX3_mean_44 : decode cX3_mean 44 = .ok (.ddiv, 1) := by decide +kernel
theorem dX3_mean_45 : decode cX3_mean 45 = .ok (.dreturn, 1) := by decide +kernel
set_option maxRecDepth 20000 in
theorem ggX3_digest_X3_counted : GoodIn wsX3_digest wsX3_counted := goodIn_r _ [7, 2, 8, 9, 10, 11, 12, 13, 14, 15, 16, 17, 18, 19, 20, 21, 22, 23, 24, 25, 26, 27, 6, 28, 29, 30, 31, 32, 33, 34, 35, 36, 37, 38, 39, 40, 41, 42, 43, 44, 45, 46, 47, 48, 49, 50, 51, 52, 53, 54, 55, 56, 57, 58, 59, 60, 61, 62, 63, 64, 65, 66, 67, 68, 69, 70, 71, 72, 73, 74, 75, 76, 77, 78, 79, 80, 81, 82, 83, 84, 85, 86, 87, 88, 89, 90, 91, 92, 93, 94, 95, 96, 97, 98, 99, 141, 142, 143, 144, 145, 146, 147, 148, 149, 150, 151, 152, 153, 154] (by decide +kernel) (by decide +kernel)
set_option maxRecDepth 20000 in
theorem gX3_digest_X3_counted : GoodIn wsX3_digest (wsV RX3 130 RX3 yX3_counted wsX3_counted) := goodIn_app (goodIn_of _ (by decide +kernel)) ggX3_digest_X3_counted
set_option maxRecDepth 20000 in
theorem ggX3_digest_X3_mixed : GoodIn wsX3_digest wsX3_mixed := goodIn_r _ [102, 103] (by decide +kernel) (by decide +kernel)
set_option maxRecDepth 20000 in
theorem gX3_digest_X3_mixed : GoodIn wsX3_digest (va_wsS RX3 158 yX3_mixed wsX3_mixed) := goodIn_app (goodIn_of _ (by decide +kernel)) ggX3_digest_X3_mixed
set_option maxRecDepth 20000 in
theorem ggX3_digest_X2_size : GoodIn wsX3_digest wsX2_size := goodIn_r _ [14, 15, 145, 146, 147, 148, 149, 150] (by decide +kernel) (by decide +kernel)
set_option maxRecDepth 20000 in
theorem gX3_digest_X2_size : GoodIn wsX3_digest (wsV RX3 33 RX2 yX2_size wsX2_size) := goodIn_app (goodIn_of _ (by decide +kernel)) ggX3_digest_X2_size
set_option maxRecDepth 20000 in
theorem ggX3_digest_X2_placed : GoodIn wsX3_digest wsX2_placed := goodIn_r _ [107, 108, 145, 146, 147, 148, 149, 150] (by decide +kernel) (by decide +kernel)
set_option maxRecDepth 20000 in
theorem gX3_digest_X2_placed : GoodIn wsX3_digest (wsV RX3 124 RX2 yX2_placed wsX2_placed) := goodIn_app (goodIn_of _ (by decide +kernel)) ggX3_digest_X2_placed
set_option maxRecDepth 20000 in
theorem ggX3_digest_X3_mixedLayer : GoodIn wsX3_digest wsX3_mixedLayer := goodIn_r _ [112, 2, 113, 114, 115, 6, 116, 8, 33, 34, 35, 36, 37, 38, 39, 13, 40, 41, 42, 43, 44, 45, 46, 47, 48, 49, 50, 51, 52, 53, 22, 23, 24, 54, 55, 56, 57, 58, 59, 60, 61, 62, 63, 64, 65, 66, 67, 68, 69, 70, 71, 72, 29, 30, 31, 32, 117, 118, 119, 120, 20, 121, 79, 80, 81, 82, 83, 84, 122, 123, 124, 125, 126, 127, 128, 129, 9, 130, 131, 132, 97, 133, 99, 134, 135, 136, 137, 138, 139, 140, 77, 100, 101, 102, 103, 141, 142, 143, 144, 145, 146, 147, 148, 149, 150, 151, 152, 153, 154] (by decide +kernel) (by decide +kernel)
set_option maxRecDepth 20000 in
theorem gX3_digest_X3_mixedLayer : GoodIn wsX3_digest (wsV RX3 162 RX3 yX3_mixedLayer wsX3_mixedLayer) := goodIn_app (goodIn_of _ (by decide +kernel)) ggX3_digest_X3_mixedLayer
theorem dX3_digest_0 : decode cX3_digest 0 = .ok (.ldc2_w 156, 3) := by decide +kernel
theorem dX3_digest_3 : decode cX3_digest 3 = .ok (.lstore_n 1, 1) := by decide +kernel
theorem dX3_digest_4 : decode cX3_digest 4 = .ok (.iconst 0, 1) := by decide +kernel
theorem dX3_digest_5 : decode cX3_digest 5 = .ok (.istore_n 3, 1) := by decide +kernel
theorem dX3_digest_6 : decode cX3_digest 6 = .ok (.iload_n 3, 1) := by decide +kernel
theorem dX3_digest_7 : decode cX3_digest 7 = .ok (.bipush 7, 2) := by decide +kernel
theorem dX3_digest_9 : decode cX3_digest 9 = .ok (.if_icmp .ge 20, 3) := by decide +kernel
theorem dX3_digest_12 : decode cX3_digest 12 = .ok (.lload_n 1, 1) := by decide +kernel
theorem dX3_digest_13 : decode cX3_digest 13 = .ok (.aload_n 0, 1) := by decide +kernel
theorem dX3_digest_14 : decode cX3_digest 14 = .ok (.iload_n 3, 1) := by decide +kernel
theorem dX3_digest_15 : decode cX3_digest 15 = .ok (.invokevirtual 130, 3) := by decide +kernel
theorem dX3_digest_18 : decode cX3_digest 18 = .ok (.i2l, 1) := by decide +kernel
theorem dX3_digest_19 : decode cX3_digest 19 = .ok (.invokestatic 158, 3) := by decide +kernel
theorem dX3_digest_22 : decode cX3_digest 22 = .ok (.lstore_n 1, 1) := by decide +kernel
theorem dX3_digest_23 : decode cX3_digest 23 = .ok (.iinc 3 1, 3) := by decide +kernel
theorem dX3_digest_26 : decode cX3_digest 26 = .ok (.goto (-20), 3) := by decide +kernel
theorem dX3_digest_29 : decode cX3_digest 29 = .ok (.iconst 0, 1) := by decide +kernel
theorem dX3_digest_30 : decode cX3_digest 30 = .ok (.istore_n 3, 1) := by decide +kernel
theorem dX3_digest_31 : decode cX3_digest 31 = .ok (.iload_n 3, 1) := by decide +kernel
theorem dX3_digest_32 : decode cX3_digest 32 = .ok (.aload_n 0, 1) := by decide +kernel
theorem dX3_digest_33 : decode cX3_digest 33 = .ok (.getfield 10, 3) := by decide +kernel
theorem dX3_digest_36 : decode cX3_digest 36 = .ok (.invokevirtual 33, 3) := by decide +kernel
theorem dX3_digest_39 : decode cX3_digest 39 = .ok (.if_icmp .ge 23, 3) := by decide +kernel
theorem dX3_digest_42 : decode cX3_digest 42 = .ok (.lload_n 1, 1) := by decide +kernel
theorem dX3_digest_43 : decode cX3_digest 43 = .ok (.aload_n 0, 1) := by decide +kernel
theorem dX3_digest_44 : decode cX3_digest 44 = .ok (.getfield 10, 3) := by decide +kernel
theorem dX3_digest_47 : decode cX3_digest 47 = .ok (.iload_n 3, 1) := by decide +kernel
theorem dX3_digest_48 : decode cX3_digest 48 = .ok (.invokevirtual 124, 3) := by decide +kernel
theorem dX3_digest_51 : decode cX3_digest 51 = .ok (.i2l, 1) := by decide +kernel
theorem dX3_digest_52 : decode cX3_digest 52 = .ok (.invokestatic 158, 3) := by decide +kernel
theorem dX3_digest_55 : decode cX3_digest 55 = .ok (.lstore_n 1, 1) := by decide +kernel
theorem dX3_digest_56 : decode cX3_digest 56 = .ok (.iinc 3 1, 3) := by decide +kernel
theorem dX3_digest_59 : decode cX3_digest 59 = .ok (.goto (-28), 3) := by decide +kernel
theorem dX3_digest_62 : decode cX3_digest 62 = .ok (.iconst 0, 1) := by decide +kernel
theorem dX3_digest_63 : decode cX3_digest 63 = .ok (.istore_n 3, 1) := by decide +kernel
theorem dX3_digest_64 : decode cX3_digest 64 = .ok (.iload_n 3, 1) := by decide +kernel
theorem dX3_digest_65 : decode cX3_digest 65 = .ok (.aload_n 0, 1) := by decide +kernel
theorem dX3_digest_66 : decode cX3_digest 66 = .ok (.getfield 10, 3) := by decide +kernel
theorem dX3_digest_69 : decode cX3_digest 69 = .ok (.invokevirtual 33, 3) := by decide +kernel
theorem dX3_digest_72 : decode cX3_digest 72 = .ok (.if_icmp .ge 16, 3) := by decide +kernel
theorem dX3_digest_75 : decode cX3_digest 75 = .ok (.aload_n 0, 1) := by decide +kernel
theorem dX3_digest_76 : decode cX3_digest 76 = .ok (.lload_n 1, 1) := by decide +kernel
theorem dX3_digest_77 : decode cX3_digest 77 = .ok (.iload_n 3, 1) := by decide +kernel
theorem dX3_digest_78 : decode cX3_digest 78 = .ok (.invokevirtual 162, 3) := by decide +kernel
theorem dX3_digest_81 : decode cX3_digest 81 = .ok (.lstore_n 1, 1) := by decide +kernel
theorem dX3_digest_82 : decode cX3_digest 82 = .ok (.iinc 3 1, 3) := by decide +kernel
theorem dX3_digest_85 : decode cX3_digest 85 = .ok (.goto (-21), 3) := by decide +kernel
theorem dX3_digest_88 : decode cX3_digest 88 = .ok (.lload_n 1, 1) := by decide +kernel
theorem dX3_digest_89 : decode cX3_digest 89 = .ok (.lreturn, 1) := by decide +kernel
set_option maxRecDepth 20000 in
theorem ggX3_mixedLayer_X3_toldOf : GoodIn wsX3_mixedLayer wsX3_toldOf := goodIn_r _ [6, 7, 1, 8, 9, 10, 5, 11, 12, 13, 14, 15, 16, 17, 18, 19, 20, 21, 22, 23, 24, 25, 26, 27, 28, 29, 30, 31, 32, 33, 34, 35, 36, 37, 38, 39, 40, 41, 42, 43, 44, 45, 46, 47, 48, 49, 50, 51, 52, 53, 54, 55, 56, 57, 58, 59, 60, 61, 62, 63, 64, 65, 66, 67, 68, 69, 70, 71, 72, 73, 74, 75, 76, 77, 78, 79, 80, 81, 82, 83, 84, 85, 86, 87, 88, 89, 90, 95, 96, 97, 98, 99, 100, 101, 102, 103, 104, 105, 106, 107, 108] (by decide +kernel) (by decide +kernel)
set_option maxRecDepth 20000 in
theorem gX3_mixedLayer_X3_toldOf : GoodIn wsX3_mixedLayer (wsV RX3 117 RX3 yX3_toldOf wsX3_toldOf) := goodIn_app (goodIn_of _ (by decide +kernel)) ggX3_mixedLayer_X3_toldOf
set_option maxRecDepth 20000 in
theorem ggX3_mixedLayer_X3_mixed : GoodIn wsX3_mixedLayer wsX3_mixed := goodIn_r _ [93, 94] (by decide +kernel) (by decide +kernel)
set_option maxRecDepth 20000 in
theorem gX3_mixedLayer_X3_mixed : GoodIn wsX3_mixedLayer (va_wsS RX3 158 yX3_mixed wsX3_mixed) := goodIn_app (goodIn_of _ (by decide +kernel)) ggX3_mixedLayer_X3_mixed
set_option maxRecDepth 20000 in
theorem ggX3_mixedLayer_X3_findsOf : GoodIn wsX3_mixedLayer wsX3_findsOf := goodIn_r _ [75, 76, 1, 12, 13, 14, 15, 16, 17, 77, 78, 79, 80, 81, 82, 33, 5, 34, 95, 96, 97, 98, 99, 100, 101, 102, 103, 104, 108] (by decide +kernel) (by decide +kernel)
set_option maxRecDepth 20000 in
theorem gX3_mixedLayer_X3_findsOf : GoodIn wsX3_mixedLayer (wsV RX3 121 RX3 yX3_findsOf wsX3_findsOf) := goodIn_app (goodIn_of _ (by decide +kernel)) ggX3_mixedLayer_X3_findsOf
set_option maxRecDepth 20000 in
theorem ggX3_mixedLayer_X2_below : GoodIn wsX3_mixedLayer wsX2_below := goodIn_r _ [21, 22, 99, 100, 101, 102, 103, 104] (by decide +kernel) (by decide +kernel)
set_option maxRecDepth 20000 in
theorem gX3_mixedLayer_X2_below : GoodIn wsX3_mixedLayer (wsV RX3 61 RX2 yX2_below wsX2_below) := goodIn_app (goodIn_of _ (by decide +kernel)) ggX3_mixedLayer_X2_below
theorem dX3_mixedLayer_0 : decode cX3_mixedLayer 0 = .ok (.lload_n 1, 1) := by decide +kernel
theorem dX3_mixedLayer_1 : decode cX3_mixedLayer 1 = .ok (.lstore 4, 2) := by decide +kernel
theorem dX3_mixedLayer_3 : decode cX3_mixedLayer 3 = .ok (.iconst 0, 1) := by decide +kernel
theorem dX3_mixedLayer_4 : decode cX3_mixedLayer 4 = .ok (.istore 6, 2) := by decide +kernel
theorem dX3_mixedLayer_6 : decode cX3_mixedLayer 6 = .ok (.iload 6, 2) := by decide +kernel
theorem dX3_mixedLayer_8 : decode cX3_mixedLayer 8 = .ok (.bipush 9, 2) := by decide +kernel
theorem dX3_mixedLayer_10 : decode cX3_mixedLayer 10 = .ok (.if_icmp .ge 24, 3) := by decide +kernel
theorem dX3_mixedLayer_13 : decode cX3_mixedLayer 13 = .ok (.lload 4, 2) := by decide +kernel
theorem dX3_mixedLayer_15 : decode cX3_mixedLayer 15 = .ok (.aload_n 0, 1) := by decide +kernel
theorem dX3_mixedLayer_16 : decode cX3_mixedLayer 16 = .ok (.iload_n 3, 1) := by decide +kernel
theorem dX3_mixedLayer_17 : decode cX3_mixedLayer 17 = .ok (.iload 6, 2) := by decide +kernel
theorem dX3_mixedLayer_19 : decode cX3_mixedLayer 19 = .ok (.invokevirtual 117, 3) := by decide +kernel
theorem dX3_mixedLayer_22 : decode cX3_mixedLayer 22 = .ok (.i2l, 1) := by decide +kernel
theorem dX3_mixedLayer_23 : decode cX3_mixedLayer 23 = .ok (.invokestatic 158, 3) := by decide +kernel
theorem dX3_mixedLayer_26 : decode cX3_mixedLayer 26 = .ok (.lstore 4, 2) := by decide +kernel
theorem dX3_mixedLayer_28 : decode cX3_mixedLayer 28 = .ok (.iinc 6 1, 3) := by decide +kernel
theorem dX3_mixedLayer_31 : decode cX3_mixedLayer 31 = .ok (.goto (-25), 3) := by decide +kernel
theorem dX3_mixedLayer_34 : decode cX3_mixedLayer 34 = .ok (.iconst 0, 1) := by decide +kernel
theorem dX3_mixedLayer_35 : decode cX3_mixedLayer 35 = .ok (.istore 6, 2) := by decide +kernel
theorem dX3_mixedLayer_37 : decode cX3_mixedLayer 37 = .ok (.iload 6, 2) := by decide +kernel
theorem dX3_mixedLayer_39 : decode cX3_mixedLayer 39 = .ok (.iconst 4, 1) := by decide +kernel
theorem dX3_mixedLayer_40 : decode cX3_mixedLayer 40 = .ok (.if_icmp .ge 24, 3) := by decide +kernel
theorem dX3_mixedLayer_43 : decode cX3_mixedLayer 43 = .ok (.lload 4, 2) := by decide +kernel
theorem dX3_mixedLayer_45 : decode cX3_mixedLayer 45 = .ok (.aload_n 0, 1) := by decide +kernel
theorem dX3_mixedLayer_46 : decode cX3_mixedLayer 46 = .ok (.iload_n 3, 1) := by decide +kernel
theorem dX3_mixedLayer_47 : decode cX3_mixedLayer 47 = .ok (.iload 6, 2) := by decide +kernel
theorem dX3_mixedLayer_49 : decode cX3_mixedLayer 49 = .ok (.invokevirtual 121, 3) := by decide +kernel
theorem dX3_mixedLayer_52 : decode cX3_mixedLayer 52 = .ok (.i2l, 1) := by decide +kernel
theorem dX3_mixedLayer_53 : decode cX3_mixedLayer 53 = .ok (.invokestatic 158, 3) := by decide +kernel
theorem dX3_mixedLayer_56 : decode cX3_mixedLayer 56 = .ok (.lstore 4, 2) := by decide +kernel
theorem dX3_mixedLayer_58 : decode cX3_mixedLayer 58 = .ok (.iinc 6 1, 3) := by decide +kernel
theorem dX3_mixedLayer_61 : decode cX3_mixedLayer 61 = .ok (.goto (-24), 3) := by decide +kernel
theorem dX3_mixedLayer_64 : decode cX3_mixedLayer 64 = .ok (.lload 4, 2) := by decide +kernel
theorem dX3_mixedLayer_66 : decode cX3_mixedLayer 66 = .ok (.aload_n 0, 1) := by decide +kernel
theorem dX3_mixedLayer_67 : decode cX3_mixedLayer 67 = .ok (.getfield 10, 3) := by decide +kernel
theorem dX3_mixedLayer_70 : decode cX3_mixedLayer 70 = .ok (.iload_n 3, 1) := by decide +kernel
theorem dX3_mixedLayer_71 : decode cX3_mixedLayer 71 = .ok (.invokevirtual 61, 3) := by decide +kernel
theorem dX3_mixedLayer_74 : decode cX3_mixedLayer 74 = .ok (.i2l, 1) := by decide +kernel
theorem dX3_mixedLayer_75 : decode cX3_mixedLayer 75 = .ok (.invokestatic 158, 3) := by decide +kernel
theorem dX3_mixedLayer_78 : decode cX3_mixedLayer 78 = .ok (.lreturn, 1) := by decide +kernel
theorem dX3_mixed_0 : decode cX3_mixed 0 = .ok (.lload_n 0, 1) := by decide +kernel
theorem dX3_mixed_1 : decode cX3_mixed 1 = .ok (.ldc2_w 166, 3) := by decide +kernel
theorem dX3_mixed_4 : decode cX3_mixed 4 = .ok (.lmul, 1) := by decide +kernel
theorem dX3_mixed_5 : decode cX3_mixed 5 = .ok (.lload_n 2, 1) := by decide +kernel
theorem dX3_mixed_6 : decode cX3_mixed 6 = .ok (.ladd, 1) := by decide +kernel
theorem dX3_mixed_7 : decode cX3_mixed 7 = .ok (.lreturn, 1) := by decide +kernel
set_option maxRecDepth 20000 in
theorem ggX3_checkLayer_X2_size : GoodIn wsX3_checkLayer wsX2_size := goodIn_r _ [6, 7, 18, 19, 20, 21, 22, 23] (by decide +kernel) (by decide +kernel)
set_option maxRecDepth 20000 in
theorem gX3_checkLayer_X2_size : GoodIn wsX3_checkLayer (wsV RX3 33 RX2 yX2_size wsX2_size) := goodIn_app (goodIn_of _ (by decide +kernel)) ggX3_checkLayer_X2_size
set_option maxRecDepth 20000 in
theorem ggX3_checkLayer_X3_checkIndex : GoodIn wsX3_checkLayer wsX3_checkIndex := goodIn_ca (goodIn_r _ [11, 12, 13] (by decide +kernel) (by decide +kernel)) (goodIn_sub (fun _ h => List.mem_cons_of_mem _ (List.mem_append_right _ h)) (by decide +kernel))
set_option maxRecDepth 20000 in
theorem gX3_checkLayer_X3_checkIndex : GoodIn wsX3_checkLayer (va_wsS RX3 114 yX3_checkIndex wsX3_checkIndex) := goodIn_app (goodIn_of _ (by decide +kernel)) ggX3_checkLayer_X3_checkIndex
theorem dX3_checkLayer_0 : decode cX3_checkLayer 0 = .ok (.iload_n 1, 1) := by decide +kernel
theorem dX3_checkLayer_1 : decode cX3_checkLayer 1 = .ok (.aload_n 0, 1) := by decide +kernel
theorem dX3_checkLayer_2 : decode cX3_checkLayer 2 = .ok (.getfield 10, 3) := by decide +kernel
theorem dX3_checkLayer_5 : decode cX3_checkLayer 5 = .ok (.invokevirtual 33, 3) := by decide +kernel
theorem dX3_checkLayer_8 : decode cX3_checkLayer 8 = .ok (.invokestatic 114, 3) := by decide +kernel
theorem dX3_checkLayer_11 : decode cX3_checkLayer 11 = .ok (.return_, 1) := by decide +kernel
set_option maxRecDepth 20000 in
theorem ggX3_checkKind_X3_checkIndex : GoodIn wsX3_checkKind wsX3_checkIndex := goodIn_ca (goodIn_r _ [4, 5, 6] (by decide +kernel) (by decide +kernel)) (goodIn_sub (fun _ h => List.mem_cons_of_mem _ (List.mem_append_right _ h)) (by decide +kernel))
set_option maxRecDepth 20000 in
theorem gX3_checkKind_X3_checkIndex : GoodIn wsX3_checkKind (va_wsS RX3 114 yX3_checkIndex wsX3_checkIndex) := goodIn_app (goodIn_of _ (by decide +kernel)) ggX3_checkKind_X3_checkIndex
theorem dX3_checkKind_0 : decode cX3_checkKind 0 = .ok (.iload_n 0, 1) := by decide +kernel
theorem dX3_checkKind_1 : decode cX3_checkKind 1 = .ok (.iconst 4, 1) := by decide +kernel
theorem dX3_checkKind_2 : decode cX3_checkKind 2 = .ok (.invokestatic 114, 3) := by decide +kernel
theorem dX3_checkKind_5 : decode cX3_checkKind 5 = .ok (.return_, 1) := by decide +kernel
theorem dX3_checkIndex_0 : decode cX3_checkIndex 0 = .ok (.iload_n 0, 1) := by decide +kernel
theorem dX3_checkIndex_1 : decode cX3_checkIndex 1 = .ok (.ifCond .lt 8, 3) := by decide +kernel
theorem dX3_checkIndex_4 : decode cX3_checkIndex 4 = .ok (.iload_n 0, 1) := by decide +kernel
theorem dX3_checkIndex_5 : decode cX3_checkIndex 5 = .ok (.iload_n 1, 1) := by decide +kernel
theorem dX3_checkIndex_6 : decode cX3_checkIndex 6 = .ok (.if_icmp .lt 13, 3) := by decide +kernel
theorem dX3_checkIndex_9 : decode cX3_checkIndex 9 = .ok (.new 168, 3) := by decide +kernel
theorem dX3_checkIndex_12 : decode cX3_checkIndex 12 = .ok (.dup, 1) := by decide +kernel
theorem dX3_checkIndex_13 : decode cX3_checkIndex 13 = .ok (.ldc 170, 2) := by decide +kernel
theorem dX3_checkIndex_15 : decode cX3_checkIndex 15 = .ok (.invokespecial 172, 3) := by decide +kernel
theorem dX3_checkIndex_18 : decode cX3_checkIndex 18 = .ok (.athrow, 1) := by decide +kernel
theorem dX3_checkIndex_19 : decode cX3_checkIndex 19 = .ok (.return_, 1) := by decide +kernel
set_option maxRecDepth 20000 in
theorem ggX3_toldOf_X3_firstYear : GoodIn wsX3_toldOf wsX3_firstYear := goodIn_r _ [7, 2, 8, 9, 10, 11, 12, 13, 14, 15, 16, 17, 18, 19, 20, 21, 22, 23, 24, 25, 26, 27, 28, 29, 6, 30, 87, 88, 89, 90, 91, 92, 93, 94, 95, 96, 97, 98, 99] (by decide +kernel) (by decide +kernel)
set_option maxRecDepth 20000 in
theorem gX3_toldOf_X3_firstYear : GoodIn wsX3_toldOf (wsV RX3 98 RX3 yX3_firstYear wsX3_firstYear) := goodIn_app (goodIn_of _ (by decide +kernel)) ggX3_toldOf_X3_firstYear
set_option maxRecDepth 20000 in
theorem ggX3_toldOf_X3_lastYear : GoodIn wsX3_toldOf wsX3_lastYear := goodIn_r _ [34, 2, 8, 9, 10, 11, 12, 13, 35, 36, 37, 38, 39, 40, 41, 42, 22, 43, 44, 45, 46, 27, 47, 29, 6, 30, 87, 88, 89, 90, 91, 92, 93, 94, 95, 96, 97, 98, 99] (by decide +kernel) (by decide +kernel)
set_option maxRecDepth 20000 in
theorem gX3_toldOf_X3_lastYear : GoodIn wsX3_toldOf (wsV RX3 173 RX3 yX3_lastYear wsX3_lastYear) := goodIn_app (goodIn_of _ (by decide +kernel)) ggX3_toldOf_X3_lastYear
set_option maxRecDepth 20000 in
theorem ggX3_toldOf_X3_isDoubtful : GoodIn wsX3_toldOf wsX3_isDoubtful := goodIn_r _ [51, 3, 4, 5, 6, 7, 2, 8, 9, 10, 11, 12, 13, 14, 15, 16, 17, 18, 19, 20, 21, 22, 23, 24, 25, 26, 27, 28, 29, 30, 31, 32, 33, 34, 35, 36, 37, 38, 39, 40, 41, 42, 43, 44, 45, 46, 47, 87, 88, 89, 90, 91, 92, 93, 94, 95, 96, 97, 98, 99] (by decide +kernel) (by decide +kernel)
set_option maxRecDepth 20000 in
theorem gX3_toldOf_X3_isDoubtful : GoodIn wsX3_toldOf (wsV RX3 143 RX3 yX3_isDoubtful wsX3_isDoubtful) := goodIn_app (goodIn_of _ (by decide +kernel)) ggX3_toldOf_X3_isDoubtful
set_option maxRecDepth 20000 in
theorem ggX3_toldOf_X2_phase : GoodIn wsX3_toldOf wsX2_phase := goodIn_r _ [55, 56, 91, 92, 93, 94, 95, 96] (by decide +kernel) (by decide +kernel)
set_option maxRecDepth 20000 in
theorem gX3_toldOf_X2_phase : GoodIn wsX3_toldOf (wsV RX3 153 RX2 yX2_phase wsX2_phase) := goodIn_app (goodIn_of _ (by decide +kernel)) ggX3_toldOf_X2_phase
set_option maxRecDepth 20000 in
theorem ggX3_toldOf_X2_below : GoodIn wsX3_toldOf wsX2_below := goodIn_r _ [17, 18, 91, 92, 93, 94, 95, 96] (by decide +kernel) (by decide +kernel)
set_option maxRecDepth 20000 in
theorem gX3_toldOf_X2_below : GoodIn wsX3_toldOf (wsV RX3 61 RX2 yX2_below wsX2_below) := goodIn_app (goodIn_of _ (by decide +kernel)) ggX3_toldOf_X2_below
set_option maxRecDepth 20000 in
theorem ggX3_toldOf_J6_bitCount_0f7a4 : GoodIn wsX3_toldOf wsJ6_bitCount_0f7a4 := goodIn_r _ [60, 61, 62, 63] (by decide +kernel) (by decide +kernel)
set_option maxRecDepth 20000 in
theorem gX3_toldOf_J6_bitCount_0f7a4 : GoodIn wsX3_toldOf (va_wsS RX3 65 yJ6_bitCount_0f7a4 wsJ6_bitCount_0f7a4) := goodIn_app (goodIn_of _ (by decide +kernel)) ggX3_toldOf_J6_bitCount_0f7a4
set_option maxRecDepth 20000 in
theorem ggX3_toldOf_X2_onTop : GoodIn wsX3_toldOf wsX2_onTop := goodIn_r _ [38, 39, 91, 92, 93, 94, 95, 96] (by decide +kernel) (by decide +kernel)
set_option maxRecDepth 20000 in
theorem gX3_toldOf_X2_onTop : GoodIn wsX3_toldOf (wsV RX3 127 RX2 yX2_onTop wsX2_onTop) := goodIn_app (goodIn_of _ (by decide +kernel)) ggX3_toldOf_X2_onTop
set_option maxRecDepth 20000 in
theorem ggX3_toldOf_X2_alike : GoodIn wsX3_toldOf wsX2_alike := goodIn_r _ [12, 13, 91, 92, 93, 94, 95, 96] (by decide +kernel) (by decide +kernel)
set_option maxRecDepth 20000 in
theorem gX3_toldOf_X2_alike : GoodIn wsX3_toldOf (wsV RX3 78 RX2 yX2_alike wsX2_alike) := goodIn_app (goodIn_of _ (by decide +kernel)) ggX3_toldOf_X2_alike
set_option maxRecDepth 20000 in
theorem ggX3_toldOf_X3_season : GoodIn wsX3_toldOf wsX3_season := goodIn_r _ [67, 68, 69, 70, 6, 71, 72, 2, 8, 9, 10, 11, 12, 13, 73, 74, 75, 76, 77, 78, 29, 30, 79, 80, 81, 87, 88, 89, 90, 91, 92, 93, 94, 95, 96, 100] (by decide +kernel) (by decide +kernel)
set_option maxRecDepth 20000 in
theorem gX3_toldOf_X3_season : GoodIn wsX3_toldOf (wsV RX3 176 RX3 yX3_season wsX3_season) := goodIn_app (goodIn_of _ (by decide +kernel)) ggX3_toldOf_X3_season
set_option maxRecDepth 20000 in
theorem ggX3_toldOf_X0_isAt : GoodIn wsX3_toldOf wsX0_isAt := goodIn_r _ [85, 86, 29, 6, 30, 97, 98, 99] (by decide +kernel) (by decide +kernel)
set_option maxRecDepth 20000 in
theorem gX3_toldOf_X0_isAt : GoodIn wsX3_toldOf (wsV RX3 102 RX0 yX0_isAt wsX0_isAt) := goodIn_app (goodIn_of _ (by decide +kernel)) ggX3_toldOf_X0_isAt
theorem dX3_toldOf_0 : decode cX3_toldOf 0 = .ok (.iload_n 2, 1) := by decide +kernel
theorem dX3_toldOf_1 : decode cX3_toldOf 1 = .ok (.tableswitch 136 0 7 #[47, 57, 67, 85, 94, 106, 118, 130], 47) := by decide +kernel
theorem dX3_toldOf_48 : decode cX3_toldOf 48 = .ok (.aload_n 0, 1) := by decide +kernel
theorem dX3_toldOf_49 : decode cX3_toldOf 49 = .ok (.aload_n 0, 1) := by decide +kernel
theorem dX3_toldOf_50 : decode cX3_toldOf 50 = .ok (.getfield 26, 3) := by decide +kernel
theorem dX3_toldOf_53 : decode cX3_toldOf 53 = .ok (.iload_n 1, 1) := by decide +kernel
theorem dX3_toldOf_54 : decode cX3_toldOf 54 = .ok (.invokevirtual 98, 3) := by decide +kernel
theorem dX3_toldOf_57 : decode cX3_toldOf 57 = .ok (.ireturn, 1) := by decide +kernel
theorem dX3_toldOf_58 : decode cX3_toldOf 58 = .ok (.aload_n 0, 1) := by decide +kernel
theorem dX3_toldOf_59 : decode cX3_toldOf 59 = .ok (.aload_n 0, 1) := by decide +kernel
theorem dX3_toldOf_60 : decode cX3_toldOf 60 = .ok (.getfield 26, 3) := by decide +kernel
theorem dX3_toldOf_63 : decode cX3_toldOf 63 = .ok (.iload_n 1, 1) := by decide +kernel
theorem dX3_toldOf_64 : decode cX3_toldOf 64 = .ok (.invokevirtual 173, 3) := by decide +kernel
theorem dX3_toldOf_67 : decode cX3_toldOf 67 = .ok (.ireturn, 1) := by decide +kernel
theorem dX3_toldOf_68 : decode cX3_toldOf 68 = .ok (.aload_n 0, 1) := by decide +kernel
theorem dX3_toldOf_69 : decode cX3_toldOf 69 = .ok (.aload_n 0, 1) := by decide +kernel
theorem dX3_toldOf_70 : decode cX3_toldOf 70 = .ok (.getfield 26, 3) := by decide +kernel
theorem dX3_toldOf_73 : decode cX3_toldOf 73 = .ok (.iload_n 1, 1) := by decide +kernel
theorem dX3_toldOf_74 : decode cX3_toldOf 74 = .ok (.invokevirtual 143, 3) := by decide +kernel
theorem dX3_toldOf_77 : decode cX3_toldOf 77 = .ok (.ifCond .eq 7, 3) := by decide +kernel
theorem dX3_toldOf_80 : decode cX3_toldOf 80 = .ok (.iconst 1, 1) := by decide +kernel
theorem dX3_toldOf_81 : decode cX3_toldOf 81 = .ok (.goto 4, 3) := by decide +kernel
theorem dX3_toldOf_84 : decode cX3_toldOf 84 = .ok (.iconst 0, 1) := by decide +kernel
theorem dX3_toldOf_85 : decode cX3_toldOf 85 = .ok (.ireturn, 1) := by decide +kernel
theorem dX3_toldOf_86 : decode cX3_toldOf 86 = .ok (.aload_n 0, 1) := by decide +kernel
theorem dX3_toldOf_87 : decode cX3_toldOf 87 = .ok (.getfield 10, 3) := by decide +kernel
theorem dX3_toldOf_90 : decode cX3_toldOf 90 = .ok (.iload_n 1, 1) := by decide +kernel
theorem dX3_toldOf_91 : decode cX3_toldOf 91 = .ok (.invokevirtual 153, 3) := by decide +kernel
theorem dX3_toldOf_94 : decode cX3_toldOf 94 = .ok (.ireturn, 1) := by decide +kernel
theorem dX3_toldOf_95 : decode cX3_toldOf 95 = .ok (.aload_n 0, 1) := by decide +kernel
theorem dX3_toldOf_96 : decode cX3_toldOf 96 = .ok (.getfield 10, 3) := by decide +kernel
theorem dX3_toldOf_99 : decode cX3_toldOf 99 = .ok (.iload_n 1, 1) := by decide +kernel
theorem dX3_toldOf_100 : decode cX3_toldOf 100 = .ok (.invokevirtual 61, 3) := by decide +kernel
theorem dX3_toldOf_103 : decode cX3_toldOf 103 = .ok (.invokestatic 65, 3) := by decide +kernel
theorem dX3_toldOf_106 : decode cX3_toldOf 106 = .ok (.ireturn, 1) := by decide +kernel
theorem dX3_toldOf_107 : decode cX3_toldOf 107 = .ok (.aload_n 0, 1) := by decide +kernel
theorem dX3_toldOf_108 : decode cX3_toldOf 108 = .ok (.getfield 10, 3) := by decide +kernel
theorem dX3_toldOf_111 : decode cX3_toldOf 111 = .ok (.iload_n 1, 1) := by decide +kernel
theorem dX3_toldOf_112 : decode cX3_toldOf 112 = .ok (.invokevirtual 127, 3) := by decide +kernel
theorem dX3_toldOf_115 : decode cX3_toldOf 115 = .ok (.invokestatic 65, 3) := by decide +kernel
theorem dX3_toldOf_118 : decode cX3_toldOf 118 = .ok (.ireturn, 1) := by decide +kernel
theorem dX3_toldOf_119 : decode cX3_toldOf 119 = .ok (.aload_n 0, 1) := by decide +kernel
theorem dX3_toldOf_120 : decode cX3_toldOf 120 = .ok (.getfield 10, 3) := by decide +kernel
theorem dX3_toldOf_123 : decode cX3_toldOf 123 = .ok (.iload_n 1, 1) := by decide +kernel
theorem dX3_toldOf_124 : decode cX3_toldOf 124 = .ok (.invokevirtual 78, 3) := by decide +kernel
theorem dX3_toldOf_127 : decode cX3_toldOf 127 = .ok (.invokestatic 65, 3) := by decide +kernel
theorem dX3_toldOf_130 : decode cX3_toldOf 130 = .ok (.ireturn, 1) := by decide +kernel
theorem dX3_toldOf_131 : decode cX3_toldOf 131 = .ok (.aload_n 0, 1) := by decide +kernel
theorem dX3_toldOf_132 : decode cX3_toldOf 132 = .ok (.iload_n 1, 1) := by decide +kernel
theorem dX3_toldOf_133 : decode cX3_toldOf 133 = .ok (.invokevirtual 176, 3) := by decide +kernel
theorem dX3_toldOf_136 : decode cX3_toldOf 136 = .ok (.ireturn, 1) := by decide +kernel
theorem dX3_toldOf_137 : decode cX3_toldOf 137 = .ok (.aload_n 0, 1) := by decide +kernel
theorem dX3_toldOf_138 : decode cX3_toldOf 138 = .ok (.getfield 26, 3) := by decide +kernel
theorem dX3_toldOf_141 : decode cX3_toldOf 141 = .ok (.iload_n 1, 1) := by decide +kernel
theorem dX3_toldOf_142 : decode cX3_toldOf 142 = .ok (.invokevirtual 102, 3) := by decide +kernel
theorem dX3_toldOf_145 : decode cX3_toldOf 145 = .ok (.ifCond .eq 7, 3) := by decide +kernel
theorem dX3_toldOf_148 : decode cX3_toldOf 148 = .ok (.iconst 1, 1) := by decide +kernel
theorem dX3_toldOf_149 : decode cX3_toldOf 149 = .ok (.goto 4, 3) := by decide +kernel
theorem dX3_toldOf_152 : decode cX3_toldOf 152 = .ok (.iconst 0, 1) := by decide +kernel
theorem dX3_toldOf_153 : decode cX3_toldOf 153 = .ok (.ireturn, 1) := by decide +kernel
set_option maxRecDepth 20000 in
theorem ggX3_counted_X2_size : GoodIn wsX3_counted wsX2_size := goodIn_r _ [8, 9, 99, 100, 101, 102, 103, 104] (by decide +kernel) (by decide +kernel)
set_option maxRecDepth 20000 in
theorem gX3_counted_X2_size : GoodIn wsX3_counted (wsV RX3 33 RX2 yX2_size wsX2_size) := goodIn_app (goodIn_of _ (by decide +kernel)) ggX3_counted_X2_size
set_option maxRecDepth 20000 in
theorem ggX3_counted_X2_phases : GoodIn wsX3_counted wsX2_phases := goodIn_r _ [13, 9, 14, 15, 16, 17, 18, 99, 100, 101, 102, 103, 104] (by decide +kernel) (by decide +kernel)
set_option maxRecDepth 20000 in
theorem gX3_counted_X2_phases : GoodIn wsX3_counted (wsV RX3 179 RX2 yX2_phases wsX2_phases) := goodIn_app (goodIn_of _ (by decide +kernel)) ggX3_counted_X2_phases
set_option maxRecDepth 20000 in
theorem ggX3_counted_X3_doubtfulLayers : GoodIn wsX3_counted wsX3_doubtfulLayers := goodIn_r _ [23, 1, 4, 5, 6, 7, 8, 9, 24, 25, 26, 22, 27, 28, 29, 30, 31, 32, 33, 34, 35, 36, 37, 38, 39, 40, 41, 42, 43, 44, 45, 46, 47, 48, 16, 17, 18, 49, 50, 51, 52, 53, 54, 55, 56, 57, 58, 59, 60, 61, 62, 63, 64, 65, 66, 67, 95, 96, 97, 98, 99, 100, 101, 102, 103, 104, 105, 106, 107] (by decide +kernel) (by decide +kernel)
set_option maxRecDepth 20000 in
theorem gX3_counted_X3_doubtfulLayers : GoodIn wsX3_counted (wsV RX3 133 RX3 yX3_doubtfulLayers wsX3_doubtfulLayers) := goodIn_app (goodIn_of _ (by decide +kernel)) ggX3_counted_X3_doubtfulLayers
set_option maxRecDepth 20000 in
theorem ggX3_counted_X0_size : GoodIn wsX3_counted wsX0_size := goodIn_r _ [71, 72, 73, 74, 75, 76, 77, 78, 79, 105, 106, 107] (by decide +kernel) (by decide +kernel)
set_option maxRecDepth 20000 in
theorem gX3_counted_X0_size : GoodIn wsX3_counted (wsV RX3 182 RX0 yX0_size wsX0_size) := goodIn_app (goodIn_of _ (by decide +kernel)) ggX3_counted_X0_size
set_option maxRecDepth 20000 in
theorem ggX3_counted_X2_pairs : GoodIn wsX3_counted wsX2_pairs := goodIn_r _ [83, 9, 41, 84, 74, 75, 76, 77, 78, 79, 99, 100, 101, 102, 103, 104] (by decide +kernel) (by decide +kernel)
set_option maxRecDepth 20000 in
theorem gX3_counted_X2_pairs : GoodIn wsX3_counted (wsV RX3 183 RX2 yX2_pairs wsX2_pairs) := goodIn_app (goodIn_of _ (by decide +kernel)) ggX3_counted_X2_pairs
set_option maxRecDepth 20000 in
theorem ggX3_counted_X2_sorts : GoodIn wsX3_counted wsX2_sorts := goodIn_r _ [88, 9, 36, 99, 100, 101, 102, 103, 104] (by decide +kernel) (by decide +kernel)
set_option maxRecDepth 20000 in
theorem gX3_counted_X2_sorts : GoodIn wsX3_counted (wsV RX3 186 RX2 yX2_sorts wsX2_sorts) := goodIn_app (goodIn_of _ (by decide +kernel)) ggX3_counted_X2_sorts
set_option maxRecDepth 20000 in
theorem ggX3_counted_X1_all : GoodIn wsX3_counted wsX1_all := goodIn_r _ [93, 94, 108] (by decide +kernel) (by decide +kernel)
set_option maxRecDepth 20000 in
theorem gX3_counted_X1_all : GoodIn wsX3_counted (wsV RX3 189 RX1 yX1_all wsX1_all) := goodIn_app (goodIn_of _ (by decide +kernel)) ggX3_counted_X1_all
theorem dX3_counted_0 : decode cX3_counted 0 = .ok (.iload_n 1, 1) := by decide +kernel
theorem dX3_counted_1 : decode cX3_counted 1 = .ok (.tableswitch 88 0 5 #[39, 47, 55, 64, 72, 80], 39) := by decide +kernel
theorem dX3_counted_40 : decode cX3_counted 40 = .ok (.aload_n 0, 1) := by decide +kernel
theorem dX3_counted_41 : decode cX3_counted 41 = .ok (.getfield 10, 3) := by decide +kernel
theorem dX3_counted_44 : decode cX3_counted 44 = .ok (.invokevirtual 33, 3) := by decide +kernel
theorem dX3_counted_47 : decode cX3_counted 47 = .ok (.ireturn, 1) := by decide +kernel
theorem dX3_counted_48 : decode cX3_counted 48 = .ok (.aload_n 0, 1) := by decide +kernel
theorem dX3_counted_49 : decode cX3_counted 49 = .ok (.getfield 10, 3) := by decide +kernel
theorem dX3_counted_52 : decode cX3_counted 52 = .ok (.invokevirtual 179, 3) := by decide +kernel
theorem dX3_counted_55 : decode cX3_counted 55 = .ok (.ireturn, 1) := by decide +kernel
theorem dX3_counted_56 : decode cX3_counted 56 = .ok (.aload_n 0, 1) := by decide +kernel
theorem dX3_counted_57 : decode cX3_counted 57 = .ok (.aload_n 0, 1) := by decide +kernel
theorem dX3_counted_58 : decode cX3_counted 58 = .ok (.getfield 26, 3) := by decide +kernel
theorem dX3_counted_61 : decode cX3_counted 61 = .ok (.invokevirtual 133, 3) := by decide +kernel
theorem dX3_counted_64 : decode cX3_counted 64 = .ok (.ireturn, 1) := by decide +kernel
theorem dX3_counted_65 : decode cX3_counted 65 = .ok (.aload_n 0, 1) := by decide +kernel
theorem dX3_counted_66 : decode cX3_counted 66 = .ok (.getfield 26, 3) := by decide +kernel
theorem dX3_counted_69 : decode cX3_counted 69 = .ok (.invokevirtual 182, 3) := by decide +kernel
theorem dX3_counted_72 : decode cX3_counted 72 = .ok (.ireturn, 1) := by decide +kernel
theorem dX3_counted_73 : decode cX3_counted 73 = .ok (.aload_n 0, 1) := by decide +kernel
theorem dX3_counted_74 : decode cX3_counted 74 = .ok (.getfield 10, 3) := by decide +kernel
theorem dX3_counted_77 : decode cX3_counted 77 = .ok (.invokevirtual 183, 3) := by decide +kernel
theorem dX3_counted_80 : decode cX3_counted 80 = .ok (.ireturn, 1) := by decide +kernel
theorem dX3_counted_81 : decode cX3_counted 81 = .ok (.aload_n 0, 1) := by decide +kernel
theorem dX3_counted_82 : decode cX3_counted 82 = .ok (.getfield 10, 3) := by decide +kernel
theorem dX3_counted_85 : decode cX3_counted 85 = .ok (.invokevirtual 186, 3) := by decide +kernel
theorem dX3_counted_88 : decode cX3_counted 88 = .ok (.ireturn, 1) := by decide +kernel
theorem dX3_counted_89 : decode cX3_counted 89 = .ok (.aload_n 0, 1) := by decide +kernel
theorem dX3_counted_90 : decode cX3_counted 90 = .ok (.getfield 19, 3) := by decide +kernel
theorem dX3_counted_93 : decode cX3_counted 93 = .ok (.invokevirtual 189, 3) := by decide +kernel
theorem dX3_counted_96 : decode cX3_counted 96 = .ok (.ireturn, 1) := by decide +kernel
set_option maxRecDepth 20000 in
theorem ggX3_findsOf_X2_alike : GoodIn wsX3_findsOf wsX2_alike := goodIn_r _ [7, 8, 22, 23, 24, 25, 26, 27] (by decide +kernel) (by decide +kernel)
set_option maxRecDepth 20000 in
theorem gX3_findsOf_X2_alike : GoodIn wsX3_findsOf (wsV RX3 78 RX2 yX2_alike wsX2_alike) := goodIn_app (goodIn_of _ (by decide +kernel)) ggX3_findsOf_X2_alike
set_option maxRecDepth 20000 in
theorem ggX3_findsOf_X1_sum : GoodIn wsX3_findsOf wsX1_sum := goodIn_r _ [13, 14, 15, 16, 17, 28] (by decide +kernel) (by decide +kernel)
set_option maxRecDepth 20000 in
theorem gX3_findsOf_X1_sum : GoodIn wsX3_findsOf (wsV RX3 192 RX1 yX1_sum wsX1_sum) := goodIn_app (goodIn_of _ (by decide +kernel)) ggX3_findsOf_X1_sum
theorem dX3_findsOf_0 : decode cX3_findsOf 0 = .ok (.aload_n 0, 1) := by decide +kernel
theorem dX3_findsOf_1 : decode cX3_findsOf 1 = .ok (.getfield 19, 3) := by decide +kernel
theorem dX3_findsOf_4 : decode cX3_findsOf 4 = .ok (.aload_n 0, 1) := by decide +kernel
theorem dX3_findsOf_5 : decode cX3_findsOf 5 = .ok (.getfield 10, 3) := by decide +kernel
theorem dX3_findsOf_8 : decode cX3_findsOf 8 = .ok (.iload_n 1, 1) := by decide +kernel
theorem dX3_findsOf_9 : decode cX3_findsOf 9 = .ok (.invokevirtual 78, 3) := by decide +kernel
theorem dX3_findsOf_12 : decode cX3_findsOf 12 = .ok (.iload_n 2, 1) := by decide +kernel
theorem dX3_findsOf_13 : decode cX3_findsOf 13 = .ok (.invokevirtual 192, 3) := by decide +kernel
theorem dX3_findsOf_16 : decode cX3_findsOf 16 = .ok (.ireturn, 1) := by decide +kernel
set_option maxRecDepth 20000 in
theorem ggX3_season_X3_findsOf : GoodIn wsX3_season wsX3_findsOf := goodIn_r _ [5, 6, 7, 8, 9, 10, 11, 12, 13, 14, 15, 16, 17, 18, 19, 20, 4, 21, 25, 26, 27, 28, 29, 30, 31, 32, 33, 34, 35] (by decide +kernel) (by decide +kernel)
set_option maxRecDepth 20000 in
theorem gX3_season_X3_findsOf : GoodIn wsX3_season (wsV RX3 121 RX3 yX3_findsOf wsX3_findsOf) := goodIn_app (goodIn_of _ (by decide +kernel)) ggX3_season_X3_findsOf
set_option maxRecDepth 20000 in
theorem ggX3_season_X3_weight : GoodIn wsX3_season wsX3_weight := goodIn_r _ [24] (by decide +kernel) (by decide +kernel)
set_option maxRecDepth 20000 in
theorem gX3_season_X3_weight : GoodIn wsX3_season (va_wsS RX3 195 yX3_weight wsX3_weight) := goodIn_app (goodIn_of _ (by decide +kernel)) ggX3_season_X3_weight
theorem dX3_season_0 : decode cX3_season 0 = .ok (.aload_n 0, 1) := by decide +kernel
theorem dX3_season_1 : decode cX3_season 1 = .ok (.iload_n 1, 1) := by decide +kernel
theorem dX3_season_2 : decode cX3_season 2 = .ok (.iconst 0, 1) := by decide +kernel
theorem dX3_season_3 : decode cX3_season 3 = .ok (.invokevirtual 121, 3) := by decide +kernel
theorem dX3_season_6 : decode cX3_season 6 = .ok (.istore_n 2, 1) := by decide +kernel
theorem dX3_season_7 : decode cX3_season 7 = .ok (.aload_n 0, 1) := by decide +kernel
theorem dX3_season_8 : decode cX3_season 8 = .ok (.iload_n 1, 1) := by decide +kernel
theorem dX3_season_9 : decode cX3_season 9 = .ok (.iconst 1, 1) := by decide +kernel
theorem dX3_season_10 : decode cX3_season 10 = .ok (.invokevirtual 121, 3) := by decide +kernel
theorem dX3_season_13 : decode cX3_season 13 = .ok (.istore_n 3, 1) := by decide +kernel
theorem dX3_season_14 : decode cX3_season 14 = .ok (.aload_n 0, 1) := by decide +kernel
theorem dX3_season_15 : decode cX3_season 15 = .ok (.iload_n 1, 1) := by decide +kernel
theorem dX3_season_16 : decode cX3_season 16 = .ok (.iconst 2, 1) := by decide +kernel
theorem dX3_season_17 : decode cX3_season 17 = .ok (.invokevirtual 121, 3) := by decide +kernel
theorem dX3_season_20 : decode cX3_season 20 = .ok (.istore 4, 2) := by decide +kernel
theorem dX3_season_22 : decode cX3_season 22 = .ok (.aload_n 0, 1) := by decide +kernel
theorem dX3_season_23 : decode cX3_season 23 = .ok (.iload_n 1, 1) := by decide +kernel
theorem dX3_season_24 : decode cX3_season 24 = .ok (.iconst 3, 1) := by decide +kernel
theorem dX3_season_25 : decode cX3_season 25 = .ok (.invokevirtual 121, 3) := by decide +kernel
theorem dX3_season_28 : decode cX3_season 28 = .ok (.istore 5, 2) := by decide +kernel
theorem dX3_season_30 : decode cX3_season 30 = .ok (.iconst (-1), 1) := by decide +kernel
theorem dX3_season_31 : decode cX3_season 31 = .ok (.istore 6, 2) := by decide +kernel
theorem dX3_season_33 : decode cX3_season 33 = .ok (.iconst 0, 1) := by decide +kernel
theorem dX3_season_34 : decode cX3_season 34 = .ok (.istore 7, 2) := by decide +kernel
theorem dX3_season_36 : decode cX3_season 36 = .ok (.iconst 0, 1) := by decide +kernel
theorem dX3_season_37 : decode cX3_season 37 = .ok (.istore 8, 2) := by decide +kernel
theorem dX3_season_39 : decode cX3_season 39 = .ok (.iload 8, 2) := by decide +kernel
theorem dX3_season_41 : decode cX3_season 41 = .ok (.iconst 4, 1) := by decide +kernel
theorem dX3_season_42 : decode cX3_season 42 = .ok (.if_icmp .ge 37, 3) := by decide +kernel
theorem dX3_season_45 : decode cX3_season 45 = .ok (.iload 8, 2) := by decide +kernel
theorem dX3_season_47 : decode cX3_season 47 = .ok (.iload_n 2, 1) := by decide +kernel
theorem dX3_season_48 : decode cX3_season 48 = .ok (.iload_n 3, 1) := by decide +kernel
theorem dX3_season_49 : decode cX3_season 49 = .ok (.iload 4, 2) := by decide +kernel
theorem dX3_season_51 : decode cX3_season 51 = .ok (.iload 5, 2) := by decide +kernel
theorem dX3_season_53 : decode cX3_season 53 = .ok (.invokestatic 195, 3) := by decide +kernel
theorem dX3_season_56 : decode cX3_season 56 = .ok (.istore 9, 2) := by decide +kernel
theorem dX3_season_58 : decode cX3_season 58 = .ok (.iload 9, 2) := by decide +kernel
theorem dX3_season_60 : decode cX3_season 60 = .ok (.iload 7, 2) := by decide +kernel
theorem dX3_season_62 : decode cX3_season 62 = .ok (.if_icmp .le 11, 3) := by decide +kernel
theorem dX3_season_65 : decode cX3_season 65 = .ok (.iload 9, 2) := by decide +kernel
theorem dX3_season_67 : decode cX3_season 67 = .ok (.istore 7, 2) := by decide +kernel
theorem dX3_season_69 : decode cX3_season 69 = .ok (.iload 8, 2) := by decide +kernel
theorem dX3_season_71 : decode cX3_season 71 = .ok (.istore 6, 2) := by decide +kernel
theorem dX3_season_73 : decode cX3_season 73 = .ok (.iinc 8 1, 3) := by decide +kernel
theorem dX3_season_76 : decode cX3_season 76 = .ok (.goto (-37), 3) := by decide +kernel
theorem dX3_season_79 : decode cX3_season 79 = .ok (.iload 6, 2) := by decide +kernel
theorem dX3_season_81 : decode cX3_season 81 = .ok (.ireturn, 1) := by decide +kernel
theorem dX3_weight_0 : decode cX3_weight 0 = .ok (.iload_n 0, 1) := by decide +kernel
theorem dX3_weight_1 : decode cX3_weight 1 = .ok (.tableswitch 48 0 2 #[27, 34, 42], 27) := by decide +kernel
theorem dX3_weight_28 : decode cX3_weight 28 = .ok (.iconst 3, 1) := by decide +kernel
theorem dX3_weight_29 : decode cX3_weight 29 = .ok (.iload_n 1, 1) := by decide +kernel
theorem dX3_weight_30 : decode cX3_weight 30 = .ok (.imul, 1) := by decide +kernel
theorem dX3_weight_31 : decode cX3_weight 31 = .ok (.iload 4, 2) := by decide +kernel
theorem dX3_weight_33 : decode cX3_weight 33 = .ok (.iadd, 1) := by decide +kernel
theorem dX3_weight_34 : decode cX3_weight 34 = .ok (.ireturn, 1) := by decide +kernel
theorem dX3_weight_35 : decode cX3_weight 35 = .ok (.iconst 2, 1) := by decide +kernel
theorem dX3_weight_36 : decode cX3_weight 36 = .ok (.iload_n 2, 1) := by decide +kernel
theorem dX3_weight_37 : decode cX3_weight 37 = .ok (.imul, 1) := by decide +kernel
theorem dX3_weight_38 : decode cX3_weight 38 = .ok (.iload_n 3, 1) := by decide +kernel
theorem dX3_weight_39 : decode cX3_weight 39 = .ok (.iconst 2, 1) := by decide +kernel
theorem dX3_weight_40 : decode cX3_weight 40 = .ok (.idiv, 1) := by decide +kernel
theorem dX3_weight_41 : decode cX3_weight 41 = .ok (.iadd, 1) := by decide +kernel
theorem dX3_weight_42 : decode cX3_weight 42 = .ok (.ireturn, 1) := by decide +kernel
theorem dX3_weight_43 : decode cX3_weight 43 = .ok (.iconst 2, 1) := by decide +kernel
theorem dX3_weight_44 : decode cX3_weight 44 = .ok (.iload_n 3, 1) := by decide +kernel
theorem dX3_weight_45 : decode cX3_weight 45 = .ok (.imul, 1) := by decide +kernel
theorem dX3_weight_46 : decode cX3_weight 46 = .ok (.iload_n 2, 1) := by decide +kernel
theorem dX3_weight_47 : decode cX3_weight 47 = .ok (.iadd, 1) := by decide +kernel
theorem dX3_weight_48 : decode cX3_weight 48 = .ok (.ireturn, 1) := by decide +kernel
theorem dX3_weight_49 : decode cX3_weight 49 = .ok (.iconst 4, 1) := by decide +kernel
theorem dX3_weight_50 : decode cX3_weight 50 = .ok (.iload 4, 2) := by decide +kernel
theorem dX3_weight_52 : decode cX3_weight 52 = .ok (.imul, 1) := by decide +kernel
theorem dX3_weight_53 : decode cX3_weight 53 = .ok (.iload_n 1, 1) := by decide +kernel
theorem dX3_weight_54 : decode cX3_weight 54 = .ok (.iadd, 1) := by decide +kernel
theorem dX3_weight_55 : decode cX3_weight 55 = .ok (.ireturn, 1) := by decide +kernel
set_option maxRecDepth 20000 in
theorem ggX3_firstYear_X2_alike : GoodIn wsX3_firstYear wsX2_alike := goodIn_r _ [6, 7, 30, 31, 32, 33, 34, 35] (by decide +kernel) (by decide +kernel)
set_option maxRecDepth 20000 in
theorem gX3_firstYear_X2_alike : GoodIn wsX3_firstYear (wsV RX3 78 RX2 yX2_alike wsX2_alike) := goodIn_app (goodIn_of _ (by decide +kernel)) ggX3_firstYear_X2_alike
set_option maxRecDepth 20000 in
theorem ggX3_firstYear_X2_below : GoodIn wsX3_firstYear wsX2_below := goodIn_r _ [11, 12, 30, 31, 32, 33, 34, 35] (by decide +kernel) (by decide +kernel)
set_option maxRecDepth 20000 in
theorem gX3_firstYear_X2_below : GoodIn wsX3_firstYear (wsV RX3 61 RX2 yX2_below wsX2_below) := goodIn_app (goodIn_of _ (by decide +kernel)) ggX3_firstYear_X2_below
set_option maxRecDepth 20000 in
theorem ggX3_firstYear_X0_greatestFirst : GoodIn wsX3_firstYear wsX0_greatestFirst := goodIn_r _ [17, 18, 19, 20, 21, 22, 23, 24, 25, 36, 37, 38] (by decide +kernel) (by decide +kernel)
set_option maxRecDepth 20000 in
theorem gX3_firstYear_X0_greatestFirst : GoodIn wsX3_firstYear (wsV RX3 199 RX0 yX0_greatestFirst wsX0_greatestFirst) := goodIn_app (goodIn_of _ (by decide +kernel)) ggX3_firstYear_X0_greatestFirst
theorem dX3_firstYear_0 : decode cX3_firstYear 0 = .ok (.aload_n 1, 1) := by decide +kernel
theorem dX3_firstYear_1 : decode cX3_firstYear 1 = .ok (.aload_n 0, 1) := by decide +kernel
theorem dX3_firstYear_2 : decode cX3_firstYear 2 = .ok (.getfield 10, 3) := by decide +kernel
theorem dX3_firstYear_5 : decode cX3_firstYear 5 = .ok (.iload_n 2, 1) := by decide +kernel
theorem dX3_firstYear_6 : decode cX3_firstYear 6 = .ok (.invokevirtual 78, 3) := by decide +kernel
theorem dX3_firstYear_9 : decode cX3_firstYear 9 = .ok (.aload_n 0, 1) := by decide +kernel
theorem dX3_firstYear_10 : decode cX3_firstYear 10 = .ok (.getfield 10, 3) := by decide +kernel
theorem dX3_firstYear_13 : decode cX3_firstYear 13 = .ok (.iload_n 2, 1) := by decide +kernel
theorem dX3_firstYear_14 : decode cX3_firstYear 14 = .ok (.invokevirtual 61, 3) := by decide +kernel
theorem dX3_firstYear_17 : decode cX3_firstYear 17 = .ok (.ior, 1) := by decide +kernel
theorem dX3_firstYear_18 : decode cX3_firstYear 18 = .ok (.invokevirtual 199, 3) := by decide +kernel
theorem dX3_firstYear_21 : decode cX3_firstYear 21 = .ok (.ireturn, 1) := by decide +kernel
set_option maxRecDepth 20000 in
theorem ggX3_lastYear_X2_alike : GoodIn wsX3_lastYear wsX2_alike := goodIn_r _ [6, 7, 30, 31, 32, 33, 34, 35] (by decide +kernel) (by decide +kernel)
set_option maxRecDepth 20000 in
theorem gX3_lastYear_X2_alike : GoodIn wsX3_lastYear (wsV RX3 78 RX2 yX2_alike wsX2_alike) := goodIn_app (goodIn_of _ (by decide +kernel)) ggX3_lastYear_X2_alike
set_option maxRecDepth 20000 in
theorem ggX3_lastYear_X2_onTop : GoodIn wsX3_lastYear wsX2_onTop := goodIn_r _ [11, 12, 30, 31, 32, 33, 34, 35] (by decide +kernel) (by decide +kernel)
set_option maxRecDepth 20000 in
theorem gX3_lastYear_X2_onTop : GoodIn wsX3_lastYear (wsV RX3 127 RX2 yX2_onTop wsX2_onTop) := goodIn_app (goodIn_of _ (by decide +kernel)) ggX3_lastYear_X2_onTop
set_option maxRecDepth 20000 in
theorem ggX3_lastYear_X0_leastLast : GoodIn wsX3_lastYear wsX0_leastLast := goodIn_r _ [17, 18, 19, 20, 21, 22, 23, 24, 25, 36, 37, 38] (by decide +kernel) (by decide +kernel)
set_option maxRecDepth 20000 in
theorem gX3_lastYear_X0_leastLast : GoodIn wsX3_lastYear (wsV RX3 202 RX0 yX0_leastLast wsX0_leastLast) := goodIn_app (goodIn_of _ (by decide +kernel)) ggX3_lastYear_X0_leastLast
theorem dX3_lastYear_0 : decode cX3_lastYear 0 = .ok (.aload_n 1, 1) := by decide +kernel
theorem dX3_lastYear_1 : decode cX3_lastYear 1 = .ok (.aload_n 0, 1) := by decide +kernel
theorem dX3_lastYear_2 : decode cX3_lastYear 2 = .ok (.getfield 10, 3) := by decide +kernel
theorem dX3_lastYear_5 : decode cX3_lastYear 5 = .ok (.iload_n 2, 1) := by decide +kernel
theorem dX3_lastYear_6 : decode cX3_lastYear 6 = .ok (.invokevirtual 78, 3) := by decide +kernel
theorem dX3_lastYear_9 : decode cX3_lastYear 9 = .ok (.aload_n 0, 1) := by decide +kernel
theorem dX3_lastYear_10 : decode cX3_lastYear 10 = .ok (.getfield 10, 3) := by decide +kernel
theorem dX3_lastYear_13 : decode cX3_lastYear 13 = .ok (.iload_n 2, 1) := by decide +kernel
theorem dX3_lastYear_14 : decode cX3_lastYear 14 = .ok (.invokevirtual 127, 3) := by decide +kernel
theorem dX3_lastYear_17 : decode cX3_lastYear 17 = .ok (.ior, 1) := by decide +kernel
theorem dX3_lastYear_18 : decode cX3_lastYear 18 = .ok (.invokevirtual 202, 3) := by decide +kernel
theorem dX3_lastYear_21 : decode cX3_lastYear 21 = .ok (.ireturn, 1) := by decide +kernel
set_option maxRecDepth 20000 in
theorem ggX3_span_X3_lastYear : GoodIn wsX3_span wsX3_lastYear := goodIn_r _ [5, 6, 7, 8, 9, 10, 11, 12, 13, 14, 15, 16, 17, 18, 19, 20, 21, 22, 23, 24, 25, 26, 27, 28, 4, 29, 47, 48, 49, 50, 51, 52, 53, 54, 55, 56, 57, 58, 59] (by decide +kernel) (by decide +kernel)
set_option maxRecDepth 20000 in
theorem gX3_span_X3_lastYear : GoodIn wsX3_span (wsV RX3 173 RX3 yX3_lastYear wsX3_lastYear) := goodIn_app (goodIn_of _ (by decide +kernel)) ggX3_span_X3_lastYear
set_option maxRecDepth 20000 in
theorem ggX3_span_X3_firstYear : GoodIn wsX3_span wsX3_firstYear := goodIn_r _ [33, 6, 7, 8, 9, 10, 11, 12, 34, 35, 36, 37, 38, 39, 40, 41, 21, 42, 43, 44, 45, 26, 46, 28, 4, 29, 47, 48, 49, 50, 51, 52, 53, 54, 55, 56, 57, 58, 59] (by decide +kernel) (by decide +kernel)
set_option maxRecDepth 20000 in
theorem gX3_span_X3_firstYear : GoodIn wsX3_span (wsV RX3 98 RX3 yX3_firstYear wsX3_firstYear) := goodIn_app (goodIn_of _ (by decide +kernel)) ggX3_span_X3_firstYear
theorem dX3_span_0 : decode cX3_span 0 = .ok (.aload_n 0, 1) := by decide +kernel
theorem dX3_span_1 : decode cX3_span 1 = .ok (.aload_n 1, 1) := by decide +kernel
theorem dX3_span_2 : decode cX3_span 2 = .ok (.iload_n 2, 1) := by decide +kernel
theorem dX3_span_3 : decode cX3_span 3 = .ok (.invokevirtual 173, 3) := by decide +kernel
theorem dX3_span_6 : decode cX3_span 6 = .ok (.aload_n 0, 1) := by decide +kernel
theorem dX3_span_7 : decode cX3_span 7 = .ok (.aload_n 1, 1) := by decide +kernel
theorem dX3_span_8 : decode cX3_span 8 = .ok (.iload_n 2, 1) := by decide +kernel
theorem dX3_span_9 : decode cX3_span 9 = .ok (.invokevirtual 98, 3) := by decide +kernel
theorem dX3_span_12 : decode cX3_span 12 = .ok (.isub, 1) := by decide +kernel
theorem dX3_span_13 : decode cX3_span 13 = .ok (.ireturn, 1) := by decide +kernel
set_option maxRecDepth 20000 in
theorem ggX3_isDoubtful_X3_firstYear : GoodIn wsX3_isDoubtful wsX3_firstYear := goodIn_r _ [5, 6, 7, 8, 9, 10, 11, 12, 13, 14, 15, 16, 17, 18, 19, 20, 21, 22, 23, 24, 25, 26, 27, 28, 4, 29, 47, 48, 49, 50, 51, 52, 53, 54, 55, 56, 57, 58, 59] (by decide +kernel) (by decide +kernel)
set_option maxRecDepth 20000 in
theorem gX3_isDoubtful_X3_firstYear : GoodIn wsX3_isDoubtful (wsV RX3 98 RX3 yX3_firstYear wsX3_firstYear) := goodIn_app (goodIn_of _ (by decide +kernel)) ggX3_isDoubtful_X3_firstYear
set_option maxRecDepth 20000 in
theorem ggX3_isDoubtful_X3_lastYear : GoodIn wsX3_isDoubtful wsX3_lastYear := goodIn_r _ [33, 6, 7, 8, 9, 10, 11, 12, 34, 35, 36, 37, 38, 39, 40, 41, 21, 42, 43, 44, 45, 26, 46, 28, 4, 29, 47, 48, 49, 50, 51, 52, 53, 54, 55, 56, 57, 58, 59] (by decide +kernel) (by decide +kernel)
set_option maxRecDepth 20000 in
theorem gX3_isDoubtful_X3_lastYear : GoodIn wsX3_isDoubtful (wsV RX3 173 RX3 yX3_lastYear wsX3_lastYear) := goodIn_app (goodIn_of _ (by decide +kernel)) ggX3_isDoubtful_X3_lastYear
theorem dX3_isDoubtful_0 : decode cX3_isDoubtful 0 = .ok (.aload_n 0, 1) := by decide +kernel
theorem dX3_isDoubtful_1 : decode cX3_isDoubtful 1 = .ok (.aload_n 1, 1) := by decide +kernel
theorem dX3_isDoubtful_2 : decode cX3_isDoubtful 2 = .ok (.iload_n 2, 1) := by decide +kernel
theorem dX3_isDoubtful_3 : decode cX3_isDoubtful 3 = .ok (.invokevirtual 98, 3) := by decide +kernel
theorem dX3_isDoubtful_6 : decode cX3_isDoubtful 6 = .ok (.aload_n 0, 1) := by decide +kernel
theorem dX3_isDoubtful_7 : decode cX3_isDoubtful 7 = .ok (.aload_n 1, 1) := by decide +kernel
theorem dX3_isDoubtful_8 : decode cX3_isDoubtful 8 = .ok (.iload_n 2, 1) := by decide +kernel
theorem dX3_isDoubtful_9 : decode cX3_isDoubtful 9 = .ok (.invokevirtual 173, 3) := by decide +kernel
theorem dX3_isDoubtful_12 : decode cX3_isDoubtful 12 = .ok (.if_icmp .le 7, 3) := by decide +kernel
theorem dX3_isDoubtful_15 : decode cX3_isDoubtful 15 = .ok (.iconst 1, 1) := by decide +kernel
theorem dX3_isDoubtful_16 : decode cX3_isDoubtful 16 = .ok (.goto 4, 3) := by decide +kernel
theorem dX3_isDoubtful_19 : decode cX3_isDoubtful 19 = .ok (.iconst 0, 1) := by decide +kernel
theorem dX3_isDoubtful_20 : decode cX3_isDoubtful 20 = .ok (.ireturn, 1) := by decide +kernel
set_option maxRecDepth 20000 in
theorem ggX3_doubtfulLayers_X2_size : GoodIn wsX3_doubtfulLayers wsX2_size := goodIn_r _ [6, 7, 60, 61, 62, 63, 64, 65] (by decide +kernel) (by decide +kernel)
set_option maxRecDepth 20000 in
theorem gX3_doubtfulLayers_X2_size : GoodIn wsX3_doubtfulLayers (wsV RX3 33 RX2 yX2_size wsX2_size) := goodIn_app (goodIn_of _ (by decide +kernel)) ggX3_doubtfulLayers_X2_size
set_option maxRecDepth 20000 in
theorem ggX3_doubtfulLayers_X3_isDoubtful : GoodIn wsX3_doubtfulLayers wsX3_isDoubtful := goodIn_r _ [12, 13, 14, 15, 11, 16, 1, 17, 18, 19, 5, 20, 21, 22, 23, 24, 25, 26, 27, 28, 29, 30, 31, 32, 33, 34, 35, 36, 37, 38, 39, 40, 41, 42, 43, 44, 45, 46, 47, 48, 49, 50, 51, 52, 53, 54, 55, 56, 57, 58, 59, 60, 61, 62, 63, 64, 65, 66, 67, 68] (by decide +kernel) (by decide +kernel)
set_option maxRecDepth 20000 in
theorem gX3_doubtfulLayers_X3_isDoubtful : GoodIn wsX3_doubtfulLayers (wsV RX3 143 RX3 yX3_isDoubtful wsX3_isDoubtful) := goodIn_app (goodIn_of _ (by decide +kernel)) ggX3_doubtfulLayers_X3_isDoubtful
theorem dX3_doubtfulLayers_0 : decode cX3_doubtfulLayers 0 = .ok (.iconst 0, 1) := by decide +kernel
theorem dX3_doubtfulLayers_1 : decode cX3_doubtfulLayers 1 = .ok (.istore_n 2, 1) := by decide +kernel
theorem dX3_doubtfulLayers_2 : decode cX3_doubtfulLayers 2 = .ok (.iconst 0, 1) := by decide +kernel
theorem dX3_doubtfulLayers_3 : decode cX3_doubtfulLayers 3 = .ok (.istore_n 3, 1) := by decide +kernel
theorem dX3_doubtfulLayers_4 : decode cX3_doubtfulLayers 4 = .ok (.iload_n 3, 1) := by decide +kernel
theorem dX3_doubtfulLayers_5 : decode cX3_doubtfulLayers 5 = .ok (.aload_n 0, 1) := by decide +kernel
theorem dX3_doubtfulLayers_6 : decode cX3_doubtfulLayers 6 = .ok (.getfield 10, 3) := by decide +kernel
theorem dX3_doubtfulLayers_9 : decode cX3_doubtfulLayers 9 = .ok (.invokevirtual 33, 3) := by decide +kernel
theorem dX3_doubtfulLayers_12 : decode cX3_doubtfulLayers 12 = .ok (.if_icmp .ge 21, 3) := by decide +kernel
theorem dX3_doubtfulLayers_15 : decode cX3_doubtfulLayers 15 = .ok (.aload_n 0, 1) := by decide +kernel
theorem dX3_doubtfulLayers_16 : decode cX3_doubtfulLayers 16 = .ok (.aload_n 1, 1) := by decide +kernel
theorem dX3_doubtfulLayers_17 : decode cX3_doubtfulLayers 17 = .ok (.iload_n 3, 1) := by decide +kernel
theorem dX3_doubtfulLayers_18 : decode cX3_doubtfulLayers 18 = .ok (.invokevirtual 143, 3) := by decide +kernel
theorem dX3_doubtfulLayers_21 : decode cX3_doubtfulLayers 21 = .ok (.ifCond .eq 6, 3) := by decide +kernel
theorem dX3_doubtfulLayers_24 : decode cX3_doubtfulLayers 24 = .ok (.iinc 2 1, 3) := by decide +kernel
theorem dX3_doubtfulLayers_27 : decode cX3_doubtfulLayers 27 = .ok (.iinc 3 1, 3) := by decide +kernel
theorem dX3_doubtfulLayers_30 : decode cX3_doubtfulLayers 30 = .ok (.goto (-26), 3) := by decide +kernel
theorem dX3_doubtfulLayers_33 : decode cX3_doubtfulLayers 33 = .ok (.iload_n 2, 1) := by decide +kernel
theorem dX3_doubtfulLayers_34 : decode cX3_doubtfulLayers 34 = .ok (.ireturn, 1) := by decide +kernel
theorem dX3_has_0 : decode cX3_has 0 = .ok (.iload_n 0, 1) := by decide +kernel
theorem dX3_has_1 : decode cX3_has 1 = .ok (.iload_n 1, 1) := by decide +kernel
theorem dX3_has_2 : decode cX3_has 2 = .ok (.ishr, 1) := by decide +kernel
theorem dX3_has_3 : decode cX3_has 3 = .ok (.iconst 1, 1) := by decide +kernel
theorem dX3_has_4 : decode cX3_has 4 = .ok (.iand, 1) := by decide +kernel
theorem dX3_has_5 : decode cX3_has 5 = .ok (.ifCond .eq 7, 3) := by decide +kernel
theorem dX3_has_8 : decode cX3_has 8 = .ok (.iconst 1, 1) := by decide +kernel
theorem dX3_has_9 : decode cX3_has 9 = .ok (.goto 4, 3) := by decide +kernel
theorem dX3_has_12 : decode cX3_has 12 = .ok (.iconst 0, 1) := by decide +kernel
theorem dX3_has_13 : decode cX3_has 13 = .ok (.ireturn, 1) := by decide +kernel
end
section
theorem dX4_init_0 : decode cX4_init 0 = .ok (.aload_n 0, 1) := by decide +kernel
theorem dX4_init_1 : decode cX4_init 1 = .ok (.invokespecial 1, 3) := by decide +kernel
theorem dX4_init_4 : decode cX4_init 4 = .ok (.aload_n 0, 1) := by decide +kernel
theorem dX4_init_5 : decode cX4_init 5 = .ok (.bipush 14, 2) := by decide +kernel
theorem dX4_init_7 : decode cX4_init 7 = .ok (.newarray .int, 2) := by decide +kernel
theorem dX4_init_9 : decode cX4_init 9 = .ok (.putfield 9, 3) := by decide +kernel
theorem dX4_init_12 : decode cX4_init 12 = .ok (.aload_n 0, 1) := by decide +kernel
theorem dX4_init_13 : decode cX4_init 13 = .ok (.bipush 14, 2) := by decide +kernel
theorem dX4_init_15 : decode cX4_init 15 = .ok (.newarray .int, 2) := by decide +kernel
theorem dX4_init_17 : decode cX4_init 17 = .ok (.putfield 13, 3) := by decide +kernel
theorem dX4_init_20 : decode cX4_init 20 = .ok (.aload_n 0, 1) := by decide +kernel
theorem dX4_init_21 : decode cX4_init 21 = .ok (.bipush 56, 2) := by decide +kernel
theorem dX4_init_23 : decode cX4_init 23 = .ok (.newarray .int, 2) := by decide +kernel
theorem dX4_init_25 : decode cX4_init 25 = .ok (.putfield 16, 3) := by decide +kernel
theorem dX4_init_28 : decode cX4_init 28 = .ok (.aload_n 0, 1) := by decide +kernel
theorem dX4_init_29 : decode cX4_init 29 = .ok (.bipush 14, 2) := by decide +kernel
theorem dX4_init_31 : decode cX4_init 31 = .ok (.newarray .int, 2) := by decide +kernel
theorem dX4_init_33 : decode cX4_init 33 = .ok (.putfield 19, 3) := by decide +kernel
theorem dX4_init_36 : decode cX4_init 36 = .ok (.aload_n 0, 1) := by decide +kernel
theorem dX4_init_37 : decode cX4_init 37 = .ok (.bipush 14, 2) := by decide +kernel
theorem dX4_init_39 : decode cX4_init 39 = .ok (.newarray .int, 2) := by decide +kernel
theorem dX4_init_41 : decode cX4_init 41 = .ok (.putfield 22, 3) := by decide +kernel
theorem dX4_init_44 : decode cX4_init 44 = .ok (.return_, 1) := by decide +kernel
theorem dX4_thrown_0 : decode cX4_thrown 0 = .ok (.aload_n 0, 1) := by decide +kernel
theorem dX4_thrown_1 : decode cX4_thrown 1 = .ok (.getfield 25, 3) := by decide +kernel
theorem dX4_thrown_4 : decode cX4_thrown 4 = .ok (.ireturn, 1) := by decide +kernel
theorem dX4_fail_0 : decode cX4_fail 0 = .ok (.aload_n 0, 1) := by decide +kernel
theorem dX4_fail_1 : decode cX4_fail 1 = .ok (.iload_n 1, 1) := by decide +kernel
theorem dX4_fail_2 : decode cX4_fail 2 = .ok (.putfield 25, 3) := by decide +kernel
theorem dX4_fail_5 : decode cX4_fail 5 = .ok (.iconst 0, 1) := by decide +kernel
theorem dX4_fail_6 : decode cX4_fail 6 = .ok (.ireturn, 1) := by decide +kernel
theorem dX4_isIn_0 : decode cX4_isIn 0 = .ok (.iload_n 0, 1) := by decide +kernel
theorem dX4_isIn_1 : decode cX4_isIn 1 = .ok (.iload_n 1, 1) := by decide +kernel
theorem dX4_isIn_2 : decode cX4_isIn 2 = .ok (.if_icmp .lt 12, 3) := by decide +kernel
theorem dX4_isIn_5 : decode cX4_isIn 5 = .ok (.iload_n 0, 1) := by decide +kernel
theorem dX4_isIn_6 : decode cX4_isIn 6 = .ok (.iload_n 2, 1) := by decide +kernel
theorem dX4_isIn_7 : decode cX4_isIn 7 = .ok (.if_icmp .gt 7, 3) := by decide +kernel
theorem dX4_isIn_10 : decode cX4_isIn 10 = .ok (.iconst 1, 1) := by decide +kernel
theorem dX4_isIn_11 : decode cX4_isIn 11 = .ok (.goto 4, 3) := by decide +kernel
theorem dX4_isIn_14 : decode cX4_isIn 14 = .ok (.iconst 0, 1) := by decide +kernel
theorem dX4_isIn_15 : decode cX4_isIn 15 = .ok (.ireturn, 1) := by decide +kernel
set_option maxRecDepth 20000 in
theorem ggX4_isLayer_X4_isIn : GoodIn wsX4_isLayer wsX4_isIn := goodIn_r _ [5] (by decide +kernel) (by decide +kernel)
set_option maxRecDepth 20000 in
theorem gX4_isLayer_X4_isIn : GoodIn wsX4_isLayer (va_wsS RX4 32 yX4_isIn wsX4_isIn) := goodIn_app (goodIn_of _ (by decide +kernel)) ggX4_isLayer_X4_isIn
theorem dX4_isLayer_0 : decode cX4_isLayer 0 = .ok (.iload_n 1, 1) := by decide +kernel
theorem dX4_isLayer_1 : decode cX4_isLayer 1 = .ok (.iconst 0, 1) := by decide +kernel
theorem dX4_isLayer_2 : decode cX4_isLayer 2 = .ok (.aload_n 0, 1) := by decide +kernel
theorem dX4_isLayer_3 : decode cX4_isLayer 3 = .ok (.getfield 29, 3) := by decide +kernel
theorem dX4_isLayer_6 : decode cX4_isLayer 6 = .ok (.iconst 1, 1) := by decide +kernel
theorem dX4_isLayer_7 : decode cX4_isLayer 7 = .ok (.isub, 1) := by decide +kernel
theorem dX4_isLayer_8 : decode cX4_isLayer 8 = .ok (.invokestatic 32, 3) := by decide +kernel
theorem dX4_isLayer_11 : decode cX4_isLayer 11 = .ok (.ireturn, 1) := by decide +kernel
theorem dX4_has_0 : decode cX4_has 0 = .ok (.iload_n 0, 1) := by decide +kernel
theorem dX4_has_1 : decode cX4_has 1 = .ok (.iload_n 1, 1) := by decide +kernel
theorem dX4_has_2 : decode cX4_has 2 = .ok (.ishr, 1) := by decide +kernel
theorem dX4_has_3 : decode cX4_has 3 = .ok (.iconst 1, 1) := by decide +kernel
theorem dX4_has_4 : decode cX4_has 4 = .ok (.iand, 1) := by decide +kernel
theorem dX4_has_5 : decode cX4_has 5 = .ok (.iconst 1, 1) := by decide +kernel
theorem dX4_has_6 : decode cX4_has 6 = .ok (.if_icmp .ne 7, 3) := by decide +kernel
theorem dX4_has_9 : decode cX4_has 9 = .ok (.iconst 1, 1) := by decide +kernel
theorem dX4_has_10 : decode cX4_has 10 = .ok (.goto 4, 3) := by decide +kernel
theorem dX4_has_13 : decode cX4_has 13 = .ok (.iconst 0, 1) := by decide +kernel
theorem dX4_has_14 : decode cX4_has 14 = .ok (.ireturn, 1) := by decide +kernel
theorem dX4_size_0 : decode cX4_size 0 = .ok (.iconst 0, 1) := by decide +kernel
theorem dX4_size_1 : decode cX4_size 1 = .ok (.istore_n 1, 1) := by decide +kernel
theorem dX4_size_2 : decode cX4_size 2 = .ok (.iconst 0, 1) := by decide +kernel
theorem dX4_size_3 : decode cX4_size 3 = .ok (.istore_n 2, 1) := by decide +kernel
theorem dX4_size_4 : decode cX4_size 4 = .ok (.iload_n 2, 1) := by decide +kernel
theorem dX4_size_5 : decode cX4_size 5 = .ok (.bipush 14, 2) := by decide +kernel
theorem dX4_size_7 : decode cX4_size 7 = .ok (.if_icmp .ge 17, 3) := by decide +kernel
theorem dX4_size_10 : decode cX4_size 10 = .ok (.iload_n 1, 1) := by decide +kernel
theorem dX4_size_11 : decode cX4_size 11 = .ok (.iload_n 0, 1) := by decide +kernel
theorem dX4_size_12 : decode cX4_size 12 = .ok (.iload_n 2, 1) := by decide +kernel
theorem dX4_size_13 : decode cX4_size 13 = .ok (.ishr, 1) := by decide +kernel
theorem dX4_size_14 : decode cX4_size 14 = .ok (.iconst 1, 1) := by decide +kernel
theorem dX4_size_15 : decode cX4_size 15 = .ok (.iand, 1) := by decide +kernel
theorem dX4_size_16 : decode cX4_size 16 = .ok (.iadd, 1) := by decide +kernel
theorem dX4_size_17 : decode cX4_size 17 = .ok (.istore_n 1, 1) := by decide +kernel
theorem dX4_size_18 : decode cX4_size 18 = .ok (.iinc 2 1, 3) := by decide +kernel
theorem dX4_size_21 : decode cX4_size 21 = .ok (.goto (-17), 3) := by decide +kernel
theorem dX4_size_24 : decode cX4_size 24 = .ok (.iload_n 1, 1) := by decide +kernel
theorem dX4_size_25 : decode cX4_size 25 = .ok (.ireturn, 1) := by decide +kernel
set_option maxRecDepth 20000 in
theorem ggX4_find_X4_fail : GoodIn wsX4_find wsX4_fail := goodIn_r _ [9, 1, 10, 11, 12, 13, 14, 15, 16] (by decide +kernel) (by decide +kernel)
set_option maxRecDepth 20000 in
theorem gX4_find_X4_fail : GoodIn wsX4_find (wsV RX4 36 RX4 yX4_fail wsX4_fail) := goodIn_app (goodIn_of _ (by decide +kernel)) ggX4_find_X4_fail
theorem dX4_find_0 : decode cX4_find 0 = .ok (.aload_n 0, 1) := by decide +kernel
theorem dX4_find_1 : decode cX4_find 1 = .ok (.iconst 0, 1) := by decide +kernel
theorem dX4_find_2 : decode cX4_find 2 = .ok (.putfield 25, 3) := by decide +kernel
theorem dX4_find_5 : decode cX4_find 5 = .ok (.aload_n 0, 1) := by decide +kernel
theorem dX4_find_6 : decode cX4_find 6 = .ok (.getfield 29, 3) := by decide +kernel
theorem dX4_find_9 : decode cX4_find 9 = .ok (.bipush 14, 2) := by decide +kernel
theorem dX4_find_11 : decode cX4_find 11 = .ok (.if_icmp .ne 9, 3) := by decide +kernel
theorem dX4_find_14 : decode cX4_find 14 = .ok (.aload_n 0, 1) := by decide +kernel
theorem dX4_find_15 : decode cX4_find 15 = .ok (.iconst 1, 1) := by decide +kernel
theorem dX4_find_16 : decode cX4_find 16 = .ok (.invokevirtual 36, 3) := by decide +kernel
theorem dX4_find_19 : decode cX4_find 19 = .ok (.ireturn, 1) := by decide +kernel
theorem dX4_find_20 : decode cX4_find 20 = .ok (.aload_n 0, 1) := by decide +kernel
theorem dX4_find_21 : decode cX4_find 21 = .ok (.getfield 9, 3) := by decide +kernel
theorem dX4_find_24 : decode cX4_find 24 = .ok (.aload_n 0, 1) := by decide +kernel
theorem dX4_find_25 : decode cX4_find 25 = .ok (.getfield 29, 3) := by decide +kernel
theorem dX4_find_28 : decode cX4_find 28 = .ok (.iconst 1, 1) := by decide +kernel
theorem dX4_find_29 : decode cX4_find 29 = .ok (.aload_n 0, 1) := by decide +kernel
theorem dX4_find_30 : decode cX4_find 30 = .ok (.getfield 29, 3) := by decide +kernel
theorem dX4_find_33 : decode cX4_find 33 = .ok (.ishl, 1) := by decide +kernel
theorem dX4_find_34 : decode cX4_find 34 = .ok (.iastore, 1) := by decide +kernel
theorem dX4_find_35 : decode cX4_find 35 = .ok (.aload_n 0, 1) := by decide +kernel
theorem dX4_find_36 : decode cX4_find 36 = .ok (.getfield 19, 3) := by decide +kernel
theorem dX4_find_39 : decode cX4_find 39 = .ok (.aload_n 0, 1) := by decide +kernel
theorem dX4_find_40 : decode cX4_find 40 = .ok (.getfield 29, 3) := by decide +kernel
theorem dX4_find_43 : decode cX4_find 43 = .ok (.iconst (-1), 1) := by decide +kernel
theorem dX4_find_44 : decode cX4_find 44 = .ok (.iastore, 1) := by decide +kernel
theorem dX4_find_45 : decode cX4_find 45 = .ok (.aload_n 0, 1) := by decide +kernel
theorem dX4_find_46 : decode cX4_find 46 = .ok (.dup, 1) := by decide +kernel
theorem dX4_find_47 : decode cX4_find 47 = .ok (.getfield 29, 3) := by decide +kernel
theorem dX4_find_50 : decode cX4_find 50 = .ok (.iconst 1, 1) := by decide +kernel
theorem dX4_find_51 : decode cX4_find 51 = .ok (.iadd, 1) := by decide +kernel
theorem dX4_find_52 : decode cX4_find 52 = .ok (.putfield 29, 3) := by decide +kernel
theorem dX4_find_55 : decode cX4_find 55 = .ok (.aload_n 0, 1) := by decide +kernel
theorem dX4_find_56 : decode cX4_find 56 = .ok (.getfield 29, 3) := by decide +kernel
theorem dX4_find_59 : decode cX4_find 59 = .ok (.iconst 1, 1) := by decide +kernel
theorem dX4_find_60 : decode cX4_find 60 = .ok (.isub, 1) := by decide +kernel
theorem dX4_find_61 : decode cX4_find 61 = .ok (.ireturn, 1) := by decide +kernel
theorem dX4_andAbove_0 : decode cX4_andAbove 0 = .ok (.iload_n 1, 1) := by decide +kernel
theorem dX4_andAbove_1 : decode cX4_andAbove 1 = .ok (.istore_n 2, 1) := by decide +kernel
theorem dX4_andAbove_2 : decode cX4_andAbove 2 = .ok (.iconst 0, 1) := by decide +kernel
theorem dX4_andAbove_3 : decode cX4_andAbove 3 = .ok (.istore_n 3, 1) := by decide +kernel
theorem dX4_andAbove_4 : decode cX4_andAbove 4 = .ok (.iload_n 3, 1) := by decide +kernel
theorem dX4_andAbove_5 : decode cX4_andAbove 5 = .ok (.aload_n 0, 1) := by decide +kernel
theorem dX4_andAbove_6 : decode cX4_andAbove 6 = .ok (.getfield 29, 3) := by decide +kernel
theorem dX4_andAbove_9 : decode cX4_andAbove 9 = .ok (.if_icmp .ge 26, 3) := by decide +kernel
theorem dX4_andAbove_12 : decode cX4_andAbove 12 = .ok (.aload_n 0, 1) := by decide +kernel
theorem dX4_andAbove_13 : decode cX4_andAbove 13 = .ok (.getfield 13, 3) := by decide +kernel
theorem dX4_andAbove_16 : decode cX4_andAbove 16 = .ok (.iload_n 3, 1) := by decide +kernel
theorem dX4_andAbove_17 : decode cX4_andAbove 17 = .ok (.iaload, 1) := by decide +kernel
theorem dX4_andAbove_18 : decode cX4_andAbove 18 = .ok (.iload_n 1, 1) := by decide +kernel
theorem dX4_andAbove_19 : decode cX4_andAbove 19 = .ok (.iand, 1) := by decide +kernel
theorem dX4_andAbove_20 : decode cX4_andAbove 20 = .ok (.ifCond .eq 9, 3) := by decide +kernel
theorem dX4_andAbove_23 : decode cX4_andAbove 23 = .ok (.iload_n 2, 1) := by decide +kernel
theorem dX4_andAbove_24 : decode cX4_andAbove 24 = .ok (.iconst 1, 1) := by decide +kernel
theorem dX4_andAbove_25 : decode cX4_andAbove 25 = .ok (.iload_n 3, 1) := by decide +kernel
theorem dX4_andAbove_26 : decode cX4_andAbove 26 = .ok (.ishl, 1) := by decide +kernel
theorem dX4_andAbove_27 : decode cX4_andAbove 27 = .ok (.ior, 1) := by decide +kernel
theorem dX4_andAbove_28 : decode cX4_andAbove 28 = .ok (.istore_n 2, 1) := by decide +kernel
theorem dX4_andAbove_29 : decode cX4_andAbove 29 = .ok (.iinc 3 1, 3) := by decide +kernel
theorem dX4_andAbove_32 : decode cX4_andAbove 32 = .ok (.goto (-28), 3) := by decide +kernel
theorem dX4_andAbove_35 : decode cX4_andAbove 35 = .ok (.iload_n 2, 1) := by decide +kernel
theorem dX4_andAbove_36 : decode cX4_andAbove 36 = .ok (.ireturn, 1) := by decide +kernel
set_option maxRecDepth 20000 in
theorem ggX4_andBeneath_X4_has : GoodIn wsX4_andBeneath wsX4_has := goodIn_r _ [6] (by decide +kernel) (by decide +kernel)
set_option maxRecDepth 20000 in
theorem gX4_andBeneath_X4_has : GoodIn wsX4_andBeneath (va_wsS RX4 40 yX4_has wsX4_has) := goodIn_app (goodIn_of _ (by decide +kernel)) ggX4_andBeneath_X4_has
theorem dX4_andBeneath_0 : decode cX4_andBeneath 0 = .ok (.iload_n 1, 1) := by decide +kernel
theorem dX4_andBeneath_1 : decode cX4_andBeneath 1 = .ok (.istore_n 2, 1) := by decide +kernel
theorem dX4_andBeneath_2 : decode cX4_andBeneath 2 = .ok (.iconst 0, 1) := by decide +kernel
theorem dX4_andBeneath_3 : decode cX4_andBeneath 3 = .ok (.istore_n 3, 1) := by decide +kernel
theorem dX4_andBeneath_4 : decode cX4_andBeneath 4 = .ok (.iload_n 3, 1) := by decide +kernel
theorem dX4_andBeneath_5 : decode cX4_andBeneath 5 = .ok (.aload_n 0, 1) := by decide +kernel
theorem dX4_andBeneath_6 : decode cX4_andBeneath 6 = .ok (.getfield 29, 3) := by decide +kernel
theorem dX4_andBeneath_9 : decode cX4_andBeneath 9 = .ok (.if_icmp .ge 26, 3) := by decide +kernel
theorem dX4_andBeneath_12 : decode cX4_andBeneath 12 = .ok (.iload_n 1, 1) := by decide +kernel
theorem dX4_andBeneath_13 : decode cX4_andBeneath 13 = .ok (.iload_n 3, 1) := by decide +kernel
theorem dX4_andBeneath_14 : decode cX4_andBeneath 14 = .ok (.invokestatic 40, 3) := by decide +kernel
theorem dX4_andBeneath_17 : decode cX4_andBeneath 17 = .ok (.ifCond .eq 12, 3) := by decide +kernel
theorem dX4_andBeneath_20 : decode cX4_andBeneath 20 = .ok (.iload_n 2, 1) := by decide +kernel
theorem dX4_andBeneath_21 : decode cX4_andBeneath 21 = .ok (.aload_n 0, 1) := by decide +kernel
theorem dX4_andBeneath_22 : decode cX4_andBeneath 22 = .ok (.getfield 13, 3) := by decide +kernel
theorem dX4_andBeneath_25 : decode cX4_andBeneath 25 = .ok (.iload_n 3, 1) := by decide +kernel
theorem dX4_andBeneath_26 : decode cX4_andBeneath 26 = .ok (.iaload, 1) := by decide +kernel
theorem dX4_andBeneath_27 : decode cX4_andBeneath 27 = .ok (.ior, 1) := by decide +kernel
theorem dX4_andBeneath_28 : decode cX4_andBeneath 28 = .ok (.istore_n 2, 1) := by decide +kernel
theorem dX4_andBeneath_29 : decode cX4_andBeneath 29 = .ok (.iinc 3 1, 3) := by decide +kernel
theorem dX4_andBeneath_32 : decode cX4_andBeneath 32 = .ok (.goto (-28), 3) := by decide +kernel
theorem dX4_andBeneath_35 : decode cX4_andBeneath 35 = .ok (.iload_n 2, 1) := by decide +kernel
theorem dX4_andBeneath_36 : decode cX4_andBeneath 36 = .ok (.ireturn, 1) := by decide +kernel
set_option maxRecDepth 20000 in
theorem ggX4_isRefused_X4_has : GoodIn wsX4_isRefused wsX4_has := goodIn_r _ [6] (by decide +kernel) (by decide +kernel)
set_option maxRecDepth 20000 in
theorem gX4_isRefused_X4_has : GoodIn wsX4_isRefused (va_wsS RX4 40 yX4_has wsX4_has) := goodIn_app (goodIn_of _ (by decide +kernel)) ggX4_isRefused_X4_has
theorem dX4_isRefused_0 : decode cX4_isRefused 0 = .ok (.aload_n 0, 1) := by decide +kernel
theorem dX4_isRefused_1 : decode cX4_isRefused 1 = .ok (.getfield 9, 3) := by decide +kernel
theorem dX4_isRefused_4 : decode cX4_isRefused 4 = .ok (.iload_n 1, 1) := by decide +kernel
theorem dX4_isRefused_5 : decode cX4_isRefused 5 = .ok (.iaload, 1) := by decide +kernel
theorem dX4_isRefused_6 : decode cX4_isRefused 6 = .ok (.iload_n 2, 1) := by decide +kernel
theorem dX4_isRefused_7 : decode cX4_isRefused 7 = .ok (.invokestatic 40, 3) := by decide +kernel
theorem dX4_isRefused_10 : decode cX4_isRefused 10 = .ok (.ifCond .ne 16, 3) := by decide +kernel
theorem dX4_isRefused_13 : decode cX4_isRefused 13 = .ok (.aload_n 0, 1) := by decide +kernel
theorem dX4_isRefused_14 : decode cX4_isRefused 14 = .ok (.getfield 13, 3) := by decide +kernel
theorem dX4_isRefused_17 : decode cX4_isRefused 17 = .ok (.iload_n 2, 1) := by decide +kernel
theorem dX4_isRefused_18 : decode cX4_isRefused 18 = .ok (.iaload, 1) := by decide +kernel
theorem dX4_isRefused_19 : decode cX4_isRefused 19 = .ok (.iload_n 1, 1) := by decide +kernel
theorem dX4_isRefused_20 : decode cX4_isRefused 20 = .ok (.invokestatic 40, 3) := by decide +kernel
theorem dX4_isRefused_23 : decode cX4_isRefused 23 = .ok (.ifCond .eq 7, 3) := by decide +kernel
theorem dX4_isRefused_26 : decode cX4_isRefused 26 = .ok (.iconst 1, 1) := by decide +kernel
theorem dX4_isRefused_27 : decode cX4_isRefused 27 = .ok (.goto 4, 3) := by decide +kernel
theorem dX4_isRefused_30 : decode cX4_isRefused 30 = .ok (.iconst 0, 1) := by decide +kernel
theorem dX4_isRefused_31 : decode cX4_isRefused 31 = .ok (.ireturn, 1) := by decide +kernel
set_option maxRecDepth 20000 in
theorem ggX4_lay_X4_has : GoodIn wsX4_lay wsX4_has := goodIn_r _ [6] (by decide +kernel) (by decide +kernel)
set_option maxRecDepth 20000 in
theorem gX4_lay_X4_has : GoodIn wsX4_lay (va_wsS RX4 40 yX4_has wsX4_has) := goodIn_app (goodIn_of _ (by decide +kernel)) ggX4_lay_X4_has
theorem dX4_lay_0 : decode cX4_lay 0 = .ok (.iconst 0, 1) := by decide +kernel
theorem dX4_lay_1 : decode cX4_lay 1 = .ok (.istore_n 3, 1) := by decide +kernel
theorem dX4_lay_2 : decode cX4_lay 2 = .ok (.iload_n 3, 1) := by decide +kernel
theorem dX4_lay_3 : decode cX4_lay 3 = .ok (.aload_n 0, 1) := by decide +kernel
theorem dX4_lay_4 : decode cX4_lay 4 = .ok (.getfield 29, 3) := by decide +kernel
theorem dX4_lay_7 : decode cX4_lay 7 = .ok (.if_icmp .ge 27, 3) := by decide +kernel
theorem dX4_lay_10 : decode cX4_lay 10 = .ok (.iload_n 1, 1) := by decide +kernel
theorem dX4_lay_11 : decode cX4_lay 11 = .ok (.iload_n 3, 1) := by decide +kernel
theorem dX4_lay_12 : decode cX4_lay 12 = .ok (.invokestatic 40, 3) := by decide +kernel
theorem dX4_lay_15 : decode cX4_lay 15 = .ok (.ifCond .eq 13, 3) := by decide +kernel
theorem dX4_lay_18 : decode cX4_lay 18 = .ok (.aload_n 0, 1) := by decide +kernel
theorem dX4_lay_19 : decode cX4_lay 19 = .ok (.getfield 13, 3) := by decide +kernel
theorem dX4_lay_22 : decode cX4_lay 22 = .ok (.iload_n 3, 1) := by decide +kernel
theorem dX4_lay_23 : decode cX4_lay 23 = .ok (.dup2, 1) := by decide +kernel
theorem dX4_lay_24 : decode cX4_lay 24 = .ok (.iaload, 1) := by decide +kernel
theorem dX4_lay_25 : decode cX4_lay 25 = .ok (.iload_n 2, 1) := by decide +kernel
theorem dX4_lay_26 : decode cX4_lay 26 = .ok (.ior, 1) := by decide +kernel
theorem dX4_lay_27 : decode cX4_lay 27 = .ok (.iastore, 1) := by decide +kernel
theorem dX4_lay_28 : decode cX4_lay 28 = .ok (.iinc 3 1, 3) := by decide +kernel
theorem dX4_lay_31 : decode cX4_lay 31 = .ok (.goto (-29), 3) := by decide +kernel
theorem dX4_lay_34 : decode cX4_lay 34 = .ok (.return_, 1) := by decide +kernel
set_option maxRecDepth 20000 in
theorem ggX4_above_X4_isLayer : GoodIn wsX4_above wsX4_isLayer := goodIn_r _ [8, 9, 10, 11, 7, 12, 39, 40, 41, 42, 43, 44, 45] (by decide +kernel) (by decide +kernel)
set_option maxRecDepth 20000 in
theorem gX4_above_X4_isLayer : GoodIn wsX4_above (wsV RX4 44 RX4 yX4_isLayer wsX4_isLayer) := goodIn_app (goodIn_of _ (by decide +kernel)) ggX4_above_X4_isLayer
set_option maxRecDepth 20000 in
theorem ggX4_above_X4_fail : GoodIn wsX4_above wsX4_fail := goodIn_r _ [16, 1, 39, 40, 41, 42, 43, 44, 45] (by decide +kernel) (by decide +kernel)
set_option maxRecDepth 20000 in
theorem gX4_above_X4_fail : GoodIn wsX4_above (wsV RX4 36 RX4 yX4_fail wsX4_fail) := goodIn_app (goodIn_of _ (by decide +kernel)) ggX4_above_X4_fail
set_option maxRecDepth 20000 in
theorem ggX4_above_X4_isRefused : GoodIn wsX4_above wsX4_isRefused := goodIn_r _ [20, 2, 3, 21, 22, 7, 23, 39, 40, 41, 42, 43, 44, 45] (by decide +kernel) (by decide +kernel)
set_option maxRecDepth 20000 in
theorem gX4_above_X4_isRefused : GoodIn wsX4_above (wsV RX4 48 RX4 yX4_isRefused wsX4_isRefused) := goodIn_app (goodIn_of _ (by decide +kernel)) ggX4_above_X4_isRefused
set_option maxRecDepth 20000 in
theorem ggX4_above_X4_andAbove : GoodIn wsX4_above wsX4_andAbove := goodIn_r _ [27, 9, 3, 39, 40, 41, 42, 43, 44, 45] (by decide +kernel) (by decide +kernel)
set_option maxRecDepth 20000 in
theorem gX4_above_X4_andAbove : GoodIn wsX4_above (wsV RX4 51 RX4 yX4_andAbove wsX4_andAbove) := goodIn_app (goodIn_of _ (by decide +kernel)) ggX4_above_X4_andAbove
set_option maxRecDepth 20000 in
theorem ggX4_above_X4_andBeneath : GoodIn wsX4_above wsX4_andBeneath := goodIn_r _ [31, 9, 3, 21, 22, 7, 23, 39, 40, 41, 42, 43, 44, 45] (by decide +kernel) (by decide +kernel)
set_option maxRecDepth 20000 in
theorem gX4_above_X4_andBeneath : GoodIn wsX4_above (wsV RX4 54 RX4 yX4_andBeneath wsX4_andBeneath) := goodIn_app (goodIn_of _ (by decide +kernel)) ggX4_above_X4_andBeneath
set_option maxRecDepth 20000 in
theorem ggX4_above_X4_lay : GoodIn wsX4_above wsX4_lay := goodIn_r _ [35, 9, 3, 21, 22, 7, 23, 39, 40, 41, 42, 43, 44, 45] (by decide +kernel) (by decide +kernel)
set_option maxRecDepth 20000 in
theorem gX4_above_X4_lay : GoodIn wsX4_above (wsV RX4 57 RX4 yX4_lay wsX4_lay) := goodIn_app (goodIn_of _ (by decide +kernel)) ggX4_above_X4_lay
set_option maxRecDepth 20000 in
theorem ggX4_above_X4_size : GoodIn wsX4_above wsX4_size := goodIn_r _ [38] (by decide +kernel) (by decide +kernel)
set_option maxRecDepth 20000 in
theorem gX4_above_X4_size : GoodIn wsX4_above (va_wsS RX4 61 yX4_size wsX4_size) := goodIn_app (goodIn_of _ (by decide +kernel)) ggX4_above_X4_size
theorem dX4_above_0 : decode cX4_above 0 = .ok (.aload_n 0, 1) := by decide +kernel
theorem dX4_above_1 : decode cX4_above 1 = .ok (.iconst 0, 1) := by decide +kernel
theorem dX4_above_2 : decode cX4_above 2 = .ok (.putfield 25, 3) := by decide +kernel
theorem dX4_above_5 : decode cX4_above 5 = .ok (.aload_n 0, 1) := by decide +kernel
theorem dX4_above_6 : decode cX4_above 6 = .ok (.iload_n 1, 1) := by decide +kernel
theorem dX4_above_7 : decode cX4_above 7 = .ok (.invokevirtual 44, 3) := by decide +kernel
theorem dX4_above_10 : decode cX4_above 10 = .ok (.ifCond .eq 11, 3) := by decide +kernel
theorem dX4_above_13 : decode cX4_above 13 = .ok (.aload_n 0, 1) := by decide +kernel
theorem dX4_above_14 : decode cX4_above 14 = .ok (.iload_n 2, 1) := by decide +kernel
theorem dX4_above_15 : decode cX4_above 15 = .ok (.invokevirtual 44, 3) := by decide +kernel
theorem dX4_above_18 : decode cX4_above 18 = .ok (.ifCond .ne 9, 3) := by decide +kernel
theorem dX4_above_21 : decode cX4_above 21 = .ok (.aload_n 0, 1) := by decide +kernel
theorem dX4_above_22 : decode cX4_above 22 = .ok (.iconst 1, 1) := by decide +kernel
theorem dX4_above_23 : decode cX4_above 23 = .ok (.invokevirtual 36, 3) := by decide +kernel
theorem dX4_above_26 : decode cX4_above 26 = .ok (.ireturn, 1) := by decide +kernel
theorem dX4_above_27 : decode cX4_above 27 = .ok (.aload_n 0, 1) := by decide +kernel
theorem dX4_above_28 : decode cX4_above 28 = .ok (.iload_n 1, 1) := by decide +kernel
theorem dX4_above_29 : decode cX4_above 29 = .ok (.iload_n 2, 1) := by decide +kernel
theorem dX4_above_30 : decode cX4_above 30 = .ok (.invokevirtual 48, 3) := by decide +kernel
theorem dX4_above_33 : decode cX4_above 33 = .ok (.ifCond .eq 9, 3) := by decide +kernel
theorem dX4_above_36 : decode cX4_above 36 = .ok (.aload_n 0, 1) := by decide +kernel
theorem dX4_above_37 : decode cX4_above 37 = .ok (.iconst 2, 1) := by decide +kernel
theorem dX4_above_38 : decode cX4_above 38 = .ok (.invokevirtual 36, 3) := by decide +kernel
theorem dX4_above_41 : decode cX4_above 41 = .ok (.ireturn, 1) := by decide +kernel
theorem dX4_above_42 : decode cX4_above 42 = .ok (.aload_n 0, 1) := by decide +kernel
theorem dX4_above_43 : decode cX4_above 43 = .ok (.aload_n 0, 1) := by decide +kernel
theorem dX4_above_44 : decode cX4_above 44 = .ok (.aload_n 0, 1) := by decide +kernel
theorem dX4_above_45 : decode cX4_above 45 = .ok (.getfield 9, 3) := by decide +kernel
theorem dX4_above_48 : decode cX4_above 48 = .ok (.iload_n 1, 1) := by decide +kernel
theorem dX4_above_49 : decode cX4_above 49 = .ok (.iaload, 1) := by decide +kernel
theorem dX4_above_50 : decode cX4_above 50 = .ok (.invokevirtual 51, 3) := by decide +kernel
theorem dX4_above_53 : decode cX4_above 53 = .ok (.aload_n 0, 1) := by decide +kernel
theorem dX4_above_54 : decode cX4_above 54 = .ok (.aload_n 0, 1) := by decide +kernel
theorem dX4_above_55 : decode cX4_above 55 = .ok (.getfield 9, 3) := by decide +kernel
theorem dX4_above_58 : decode cX4_above 58 = .ok (.iload_n 2, 1) := by decide +kernel
theorem dX4_above_59 : decode cX4_above 59 = .ok (.iaload, 1) := by decide +kernel
theorem dX4_above_60 : decode cX4_above 60 = .ok (.invokevirtual 54, 3) := by decide +kernel
theorem dX4_above_63 : decode cX4_above 63 = .ok (.invokevirtual 57, 3) := by decide +kernel
theorem dX4_above_66 : decode cX4_above 66 = .ok (.aload_n 0, 1) := by decide +kernel
theorem dX4_above_67 : decode cX4_above 67 = .ok (.getfield 13, 3) := by decide +kernel
theorem dX4_above_70 : decode cX4_above 70 = .ok (.iload_n 1, 1) := by decide +kernel
theorem dX4_above_71 : decode cX4_above 71 = .ok (.iaload, 1) := by decide +kernel
theorem dX4_above_72 : decode cX4_above 72 = .ok (.invokestatic 61, 3) := by decide +kernel
theorem dX4_above_75 : decode cX4_above 75 = .ok (.ireturn, 1) := by decide +kernel
set_option maxRecDepth 20000 in
theorem ggX4_same_X4_isLayer : GoodIn wsX4_same wsX4_isLayer := goodIn_r _ [9, 4, 10, 11, 8, 12, 35, 36, 37, 38, 39, 40, 41] (by decide +kernel) (by decide +kernel)
set_option maxRecDepth 20000 in
theorem gX4_same_X4_isLayer : GoodIn wsX4_same (wsV RX4 44 RX4 yX4_isLayer wsX4_isLayer) := goodIn_app (goodIn_of _ (by decide +kernel)) ggX4_same_X4_isLayer
set_option maxRecDepth 20000 in
theorem ggX4_same_X4_fail : GoodIn wsX4_same wsX4_fail := goodIn_r _ [16, 1, 35, 36, 37, 38, 39, 40, 41] (by decide +kernel) (by decide +kernel)
set_option maxRecDepth 20000 in
theorem gX4_same_X4_fail : GoodIn wsX4_same (wsV RX4 36 RX4 yX4_fail wsX4_fail) := goodIn_app (goodIn_of _ (by decide +kernel)) ggX4_same_X4_fail
set_option maxRecDepth 20000 in
theorem ggX4_same_X4_has : GoodIn wsX4_same wsX4_has := goodIn_r _ [19] (by decide +kernel) (by decide +kernel)
set_option maxRecDepth 20000 in
theorem gX4_same_X4_has : GoodIn wsX4_same (va_wsS RX4 40 yX4_has wsX4_has) := goodIn_app (goodIn_of _ (by decide +kernel)) ggX4_same_X4_has
set_option maxRecDepth 20000 in
theorem ggX4_same_X4_andAbove : GoodIn wsX4_same wsX4_andAbove := goodIn_r _ [23, 4, 2, 35, 36, 37, 38, 39, 40, 41] (by decide +kernel) (by decide +kernel)
set_option maxRecDepth 20000 in
theorem gX4_same_X4_andAbove : GoodIn wsX4_same (wsV RX4 51 RX4 yX4_andAbove wsX4_andAbove) := goodIn_app (goodIn_of _ (by decide +kernel)) ggX4_same_X4_andAbove
set_option maxRecDepth 20000 in
theorem ggX4_same_X4_andBeneath : GoodIn wsX4_same wsX4_andBeneath := goodIn_r _ [27, 4, 2, 17, 18, 8, 19, 35, 36, 37, 38, 39, 40, 41] (by decide +kernel) (by decide +kernel)
set_option maxRecDepth 20000 in
theorem gX4_same_X4_andBeneath : GoodIn wsX4_same (wsV RX4 54 RX4 yX4_andBeneath wsX4_andBeneath) := goodIn_app (goodIn_of _ (by decide +kernel)) ggX4_same_X4_andBeneath
set_option maxRecDepth 20000 in
theorem ggX4_same_X4_lay : GoodIn wsX4_same wsX4_lay := goodIn_r _ [31, 4, 2, 17, 18, 8, 19, 35, 36, 37, 38, 39, 40, 41] (by decide +kernel) (by decide +kernel)
set_option maxRecDepth 20000 in
theorem gX4_same_X4_lay : GoodIn wsX4_same (wsV RX4 57 RX4 yX4_lay wsX4_lay) := goodIn_app (goodIn_of _ (by decide +kernel)) ggX4_same_X4_lay
set_option maxRecDepth 20000 in
theorem ggX4_same_X4_size : GoodIn wsX4_same wsX4_size := goodIn_r _ [34] (by decide +kernel) (by decide +kernel)
set_option maxRecDepth 20000 in
theorem gX4_same_X4_size : GoodIn wsX4_same (va_wsS RX4 61 yX4_size wsX4_size) := goodIn_app (goodIn_of _ (by decide +kernel)) ggX4_same_X4_size
theorem dX4_same_0 : decode cX4_same 0 = .ok (.aload_n 0, 1) := by decide +kernel
theorem dX4_same_1 : decode cX4_same 1 = .ok (.iconst 0, 1) := by decide +kernel
theorem dX4_same_2 : decode cX4_same 2 = .ok (.putfield 25, 3) := by decide +kernel
theorem dX4_same_5 : decode cX4_same 5 = .ok (.aload_n 0, 1) := by decide +kernel
theorem dX4_same_6 : decode cX4_same 6 = .ok (.iload_n 1, 1) := by decide +kernel
theorem dX4_same_7 : decode cX4_same 7 = .ok (.invokevirtual 44, 3) := by decide +kernel
theorem dX4_same_10 : decode cX4_same 10 = .ok (.ifCond .eq 11, 3) := by decide +kernel
theorem dX4_same_13 : decode cX4_same 13 = .ok (.aload_n 0, 1) := by decide +kernel
theorem dX4_same_14 : decode cX4_same 14 = .ok (.iload_n 2, 1) := by decide +kernel
theorem dX4_same_15 : decode cX4_same 15 = .ok (.invokevirtual 44, 3) := by decide +kernel
theorem dX4_same_18 : decode cX4_same 18 = .ok (.ifCond .ne 9, 3) := by decide +kernel
theorem dX4_same_21 : decode cX4_same 21 = .ok (.aload_n 0, 1) := by decide +kernel
theorem dX4_same_22 : decode cX4_same 22 = .ok (.iconst 1, 1) := by decide +kernel
theorem dX4_same_23 : decode cX4_same 23 = .ok (.invokevirtual 36, 3) := by decide +kernel
theorem dX4_same_26 : decode cX4_same 26 = .ok (.ireturn, 1) := by decide +kernel
theorem dX4_same_27 : decode cX4_same 27 = .ok (.aload_n 0, 1) := by decide +kernel
theorem dX4_same_28 : decode cX4_same 28 = .ok (.getfield 13, 3) := by decide +kernel
theorem dX4_same_31 : decode cX4_same 31 = .ok (.iload_n 1, 1) := by decide +kernel
theorem dX4_same_32 : decode cX4_same 32 = .ok (.iaload, 1) := by decide +kernel
theorem dX4_same_33 : decode cX4_same 33 = .ok (.iload_n 2, 1) := by decide +kernel
theorem dX4_same_34 : decode cX4_same 34 = .ok (.invokestatic 40, 3) := by decide +kernel
theorem dX4_same_37 : decode cX4_same 37 = .ok (.ifCond .ne 16, 3) := by decide +kernel
theorem dX4_same_40 : decode cX4_same 40 = .ok (.aload_n 0, 1) := by decide +kernel
theorem dX4_same_41 : decode cX4_same 41 = .ok (.getfield 13, 3) := by decide +kernel
theorem dX4_same_44 : decode cX4_same 44 = .ok (.iload_n 2, 1) := by decide +kernel
theorem dX4_same_45 : decode cX4_same 45 = .ok (.iaload, 1) := by decide +kernel
theorem dX4_same_46 : decode cX4_same 46 = .ok (.iload_n 1, 1) := by decide +kernel
theorem dX4_same_47 : decode cX4_same 47 = .ok (.invokestatic 40, 3) := by decide +kernel
theorem dX4_same_50 : decode cX4_same 50 = .ok (.ifCond .eq 9, 3) := by decide +kernel
theorem dX4_same_53 : decode cX4_same 53 = .ok (.aload_n 0, 1) := by decide +kernel
theorem dX4_same_54 : decode cX4_same 54 = .ok (.iconst 2, 1) := by decide +kernel
theorem dX4_same_55 : decode cX4_same 55 = .ok (.invokevirtual 36, 3) := by decide +kernel
theorem dX4_same_58 : decode cX4_same 58 = .ok (.ireturn, 1) := by decide +kernel
theorem dX4_same_59 : decode cX4_same 59 = .ok (.aload_n 0, 1) := by decide +kernel
theorem dX4_same_60 : decode cX4_same 60 = .ok (.getfield 9, 3) := by decide +kernel
theorem dX4_same_63 : decode cX4_same 63 = .ok (.iload_n 1, 1) := by decide +kernel
theorem dX4_same_64 : decode cX4_same 64 = .ok (.iaload, 1) := by decide +kernel
theorem dX4_same_65 : decode cX4_same 65 = .ok (.aload_n 0, 1) := by decide +kernel
theorem dX4_same_66 : decode cX4_same 66 = .ok (.getfield 9, 3) := by decide +kernel
theorem dX4_same_69 : decode cX4_same 69 = .ok (.iload_n 2, 1) := by decide +kernel
theorem dX4_same_70 : decode cX4_same 70 = .ok (.iaload, 1) := by decide +kernel
theorem dX4_same_71 : decode cX4_same 71 = .ok (.ior, 1) := by decide +kernel
theorem dX4_same_72 : decode cX4_same 72 = .ok (.istore_n 3, 1) := by decide +kernel
theorem dX4_same_73 : decode cX4_same 73 = .ok (.aload_n 0, 1) := by decide +kernel
theorem dX4_same_74 : decode cX4_same 74 = .ok (.iload_n 3, 1) := by decide +kernel
theorem dX4_same_75 : decode cX4_same 75 = .ok (.invokevirtual 51, 3) := by decide +kernel
theorem dX4_same_78 : decode cX4_same 78 = .ok (.iload_n 3, 1) := by decide +kernel
theorem dX4_same_79 : decode cX4_same 79 = .ok (.iconst (-1), 1) := by decide +kernel
theorem dX4_same_80 : decode cX4_same 80 = .ok (.ixor, 1) := by decide +kernel
theorem dX4_same_81 : decode cX4_same 81 = .ok (.iand, 1) := by decide +kernel
theorem dX4_same_82 : decode cX4_same 82 = .ok (.istore 4, 2) := by decide +kernel
theorem dX4_same_84 : decode cX4_same 84 = .ok (.aload_n 0, 1) := by decide +kernel
theorem dX4_same_85 : decode cX4_same 85 = .ok (.iload_n 3, 1) := by decide +kernel
theorem dX4_same_86 : decode cX4_same 86 = .ok (.invokevirtual 54, 3) := by decide +kernel
theorem dX4_same_89 : decode cX4_same 89 = .ok (.iload_n 3, 1) := by decide +kernel
theorem dX4_same_90 : decode cX4_same 90 = .ok (.iconst (-1), 1) := by decide +kernel
theorem dX4_same_91 : decode cX4_same 91 = .ok (.ixor, 1) := by decide +kernel
theorem dX4_same_92 : decode cX4_same 92 = .ok (.iand, 1) := by decide +kernel
theorem dX4_same_93 : decode cX4_same 93 = .ok (.istore 5, 2) := by decide +kernel
theorem dX4_same_95 : decode cX4_same 95 = .ok (.iconst 0, 1) := by decide +kernel
theorem dX4_same_96 : decode cX4_same 96 = .ok (.istore 6, 2) := by decide +kernel
theorem dX4_same_98 : decode cX4_same 98 = .ok (.iload 6, 2) := by decide +kernel
theorem dX4_same_100 : decode cX4_same 100 = .ok (.aload_n 0, 1) := by decide +kernel
theorem dX4_same_101 : decode cX4_same 101 = .ok (.getfield 29, 3) := by decide +kernel
theorem dX4_same_104 : decode cX4_same 104 = .ok (.if_icmp .ge 26, 3) := by decide +kernel
theorem dX4_same_107 : decode cX4_same 107 = .ok (.iload_n 3, 1) := by decide +kernel
theorem dX4_same_108 : decode cX4_same 108 = .ok (.iload 6, 2) := by decide +kernel
theorem dX4_same_110 : decode cX4_same 110 = .ok (.invokestatic 40, 3) := by decide +kernel
theorem dX4_same_113 : decode cX4_same 113 = .ok (.ifCond .eq 11, 3) := by decide +kernel
theorem dX4_same_116 : decode cX4_same 116 = .ok (.aload_n 0, 1) := by decide +kernel
theorem dX4_same_117 : decode cX4_same 117 = .ok (.getfield 9, 3) := by decide +kernel
theorem dX4_same_120 : decode cX4_same 120 = .ok (.iload 6, 2) := by decide +kernel
theorem dX4_same_122 : decode cX4_same 122 = .ok (.iload_n 3, 1) := by decide +kernel
theorem dX4_same_123 : decode cX4_same 123 = .ok (.iastore, 1) := by decide +kernel
theorem dX4_same_124 : decode cX4_same 124 = .ok (.iinc 6 1, 3) := by decide +kernel
theorem dX4_same_127 : decode cX4_same 127 = .ok (.goto (-29), 3) := by decide +kernel
theorem dX4_same_130 : decode cX4_same 130 = .ok (.aload_n 0, 1) := by decide +kernel
theorem dX4_same_131 : decode cX4_same 131 = .ok (.iload_n 3, 1) := by decide +kernel
theorem dX4_same_132 : decode cX4_same 132 = .ok (.iload 4, 2) := by decide +kernel
theorem dX4_same_134 : decode cX4_same 134 = .ok (.ior, 1) := by decide +kernel
theorem dX4_same_135 : decode cX4_same 135 = .ok (.iload 5, 2) := by decide +kernel
theorem dX4_same_137 : decode cX4_same 137 = .ok (.invokevirtual 57, 3) := by decide +kernel
theorem dX4_same_140 : decode cX4_same 140 = .ok (.aload_n 0, 1) := by decide +kernel
theorem dX4_same_141 : decode cX4_same 141 = .ok (.iload 4, 2) := by decide +kernel
theorem dX4_same_143 : decode cX4_same 143 = .ok (.iload_n 3, 1) := by decide +kernel
theorem dX4_same_144 : decode cX4_same 144 = .ok (.invokevirtual 57, 3) := by decide +kernel
theorem dX4_same_147 : decode cX4_same 147 = .ok (.iload_n 3, 1) := by decide +kernel
theorem dX4_same_148 : decode cX4_same 148 = .ok (.invokestatic 61, 3) := by decide +kernel
theorem dX4_same_151 : decode cX4_same 151 = .ok (.ireturn, 1) := by decide +kernel
set_option maxRecDepth 20000 in
theorem ggX4_sift_X4_isLayer : GoodIn wsX4_sift wsX4_isLayer := goodIn_r _ [7, 8, 9, 10, 6, 11, 16, 17, 18, 19, 20, 21, 22] (by decide +kernel) (by decide +kernel)
set_option maxRecDepth 20000 in
theorem gX4_sift_X4_isLayer : GoodIn wsX4_sift (wsV RX4 44 RX4 yX4_isLayer wsX4_isLayer) := goodIn_app (goodIn_of _ (by decide +kernel)) ggX4_sift_X4_isLayer
set_option maxRecDepth 20000 in
theorem ggX4_sift_X4_isIn : GoodIn wsX4_sift wsX4_isIn := goodIn_r _ [11] (by decide +kernel) (by decide +kernel)
set_option maxRecDepth 20000 in
theorem gX4_sift_X4_isIn : GoodIn wsX4_sift (va_wsS RX4 32 yX4_isIn wsX4_isIn) := goodIn_app (goodIn_of _ (by decide +kernel)) ggX4_sift_X4_isIn
set_option maxRecDepth 20000 in
theorem ggX4_sift_X4_fail : GoodIn wsX4_sift wsX4_fail := goodIn_r _ [15, 1, 16, 17, 18, 19, 20, 21, 22] (by decide +kernel) (by decide +kernel)
set_option maxRecDepth 20000 in
theorem gX4_sift_X4_fail : GoodIn wsX4_sift (wsV RX4 36 RX4 yX4_fail wsX4_fail) := goodIn_app (goodIn_of _ (by decide +kernel)) ggX4_sift_X4_fail
theorem dX4_sift_0 : decode cX4_sift 0 = .ok (.aload_n 0, 1) := by decide +kernel
theorem dX4_sift_1 : decode cX4_sift 1 = .ok (.iconst 0, 1) := by decide +kernel
theorem dX4_sift_2 : decode cX4_sift 2 = .ok (.putfield 25, 3) := by decide +kernel
theorem dX4_sift_5 : decode cX4_sift 5 = .ok (.aload_n 0, 1) := by decide +kernel
theorem dX4_sift_6 : decode cX4_sift 6 = .ok (.iload_n 1, 1) := by decide +kernel
theorem dX4_sift_7 : decode cX4_sift 7 = .ok (.invokevirtual 44, 3) := by decide +kernel
theorem dX4_sift_10 : decode cX4_sift 10 = .ok (.ifCond .eq 12, 3) := by decide +kernel
theorem dX4_sift_13 : decode cX4_sift 13 = .ok (.iload_n 2, 1) := by decide +kernel
theorem dX4_sift_14 : decode cX4_sift 14 = .ok (.iconst 0, 1) := by decide +kernel
theorem dX4_sift_15 : decode cX4_sift 15 = .ok (.iconst 3, 1) := by decide +kernel
theorem dX4_sift_16 : decode cX4_sift 16 = .ok (.invokestatic 32, 3) := by decide +kernel
theorem dX4_sift_19 : decode cX4_sift 19 = .ok (.ifCond .ne 9, 3) := by decide +kernel
theorem dX4_sift_22 : decode cX4_sift 22 = .ok (.aload_n 0, 1) := by decide +kernel
theorem dX4_sift_23 : decode cX4_sift 23 = .ok (.iconst 1, 1) := by decide +kernel
theorem dX4_sift_24 : decode cX4_sift 24 = .ok (.invokevirtual 36, 3) := by decide +kernel
theorem dX4_sift_27 : decode cX4_sift 27 = .ok (.ireturn, 1) := by decide +kernel
theorem dX4_sift_28 : decode cX4_sift 28 = .ok (.iload_n 3, 1) := by decide +kernel
theorem dX4_sift_29 : decode cX4_sift 29 = .ok (.iconst 0, 1) := by decide +kernel
theorem dX4_sift_30 : decode cX4_sift 30 = .ok (.bipush 99, 2) := by decide +kernel
theorem dX4_sift_32 : decode cX4_sift 32 = .ok (.invokestatic 32, 3) := by decide +kernel
theorem dX4_sift_35 : decode cX4_sift 35 = .ok (.ifCond .ne 9, 3) := by decide +kernel
theorem dX4_sift_38 : decode cX4_sift 38 = .ok (.aload_n 0, 1) := by decide +kernel
theorem dX4_sift_39 : decode cX4_sift 39 = .ok (.iconst 2, 1) := by decide +kernel
theorem dX4_sift_40 : decode cX4_sift 40 = .ok (.invokevirtual 36, 3) := by decide +kernel
theorem dX4_sift_43 : decode cX4_sift 43 = .ok (.ireturn, 1) := by decide +kernel
theorem dX4_sift_44 : decode cX4_sift 44 = .ok (.aload_n 0, 1) := by decide +kernel
theorem dX4_sift_45 : decode cX4_sift 45 = .ok (.getfield 16, 3) := by decide +kernel
theorem dX4_sift_48 : decode cX4_sift 48 = .ok (.iconst 4, 1) := by decide +kernel
theorem dX4_sift_49 : decode cX4_sift 49 = .ok (.iload_n 1, 1) := by decide +kernel
theorem dX4_sift_50 : decode cX4_sift 50 = .ok (.imul, 1) := by decide +kernel
theorem dX4_sift_51 : decode cX4_sift 51 = .ok (.iload_n 2, 1) := by decide +kernel
theorem dX4_sift_52 : decode cX4_sift 52 = .ok (.iadd, 1) := by decide +kernel
theorem dX4_sift_53 : decode cX4_sift 53 = .ok (.iaload, 1) := by decide +kernel
theorem dX4_sift_54 : decode cX4_sift 54 = .ok (.istore 4, 2) := by decide +kernel
theorem dX4_sift_56 : decode cX4_sift 56 = .ok (.aload_n 0, 1) := by decide +kernel
theorem dX4_sift_57 : decode cX4_sift 57 = .ok (.getfield 16, 3) := by decide +kernel
theorem dX4_sift_60 : decode cX4_sift 60 = .ok (.iconst 4, 1) := by decide +kernel
theorem dX4_sift_61 : decode cX4_sift 61 = .ok (.iload_n 1, 1) := by decide +kernel
theorem dX4_sift_62 : decode cX4_sift 62 = .ok (.imul, 1) := by decide +kernel
theorem dX4_sift_63 : decode cX4_sift 63 = .ok (.iload_n 2, 1) := by decide +kernel
theorem dX4_sift_64 : decode cX4_sift 64 = .ok (.iadd, 1) := by decide +kernel
theorem dX4_sift_65 : decode cX4_sift 65 = .ok (.iload_n 3, 1) := by decide +kernel
theorem dX4_sift_66 : decode cX4_sift 66 = .ok (.iastore, 1) := by decide +kernel
theorem dX4_sift_67 : decode cX4_sift 67 = .ok (.iload 4, 2) := by decide +kernel
theorem dX4_sift_69 : decode cX4_sift 69 = .ok (.ireturn, 1) := by decide +kernel
theorem dX4_isDated_0 : decode cX4_isDated 0 = .ok (.aload_n 0, 1) := by decide +kernel
theorem dX4_isDated_1 : decode cX4_isDated 1 = .ok (.getfield 19, 3) := by decide +kernel
theorem dX4_isDated_4 : decode cX4_isDated 4 = .ok (.iload_n 1, 1) := by decide +kernel
theorem dX4_isDated_5 : decode cX4_isDated 5 = .ok (.iaload, 1) := by decide +kernel
theorem dX4_isDated_6 : decode cX4_isDated 6 = .ok (.iconst (-1), 1) := by decide +kernel
theorem dX4_isDated_7 : decode cX4_isDated 7 = .ok (.if_icmp .eq 7, 3) := by decide +kernel
theorem dX4_isDated_10 : decode cX4_isDated 10 = .ok (.iconst 1, 1) := by decide +kernel
theorem dX4_isDated_11 : decode cX4_isDated 11 = .ok (.goto 4, 3) := by decide +kernel
theorem dX4_isDated_14 : decode cX4_isDated 14 = .ok (.iconst 0, 1) := by decide +kernel
theorem dX4_isDated_15 : decode cX4_isDated 15 = .ok (.ireturn, 1) := by decide +kernel
set_option maxRecDepth 20000 in
theorem ggX4_from_X4_isDated : GoodIn wsX4_from wsX4_isDated := goodIn_r _ [13, 4, 17, 18, 19, 20, 21, 22, 23] (by decide +kernel) (by decide +kernel)
set_option maxRecDepth 20000 in
theorem gX4_from_X4_isDated : GoodIn wsX4_from (wsV RX4 64 RX4 yX4_isDated wsX4_isDated) := goodIn_app (goodIn_of _ (by decide +kernel)) ggX4_from_X4_isDated
set_option maxRecDepth 20000 in
theorem ggX4_from_X4_has : GoodIn wsX4_from wsX4_has := goodIn_r _ [16] (by decide +kernel) (by decide +kernel)
set_option maxRecDepth 20000 in
theorem gX4_from_X4_has : GoodIn wsX4_from (va_wsS RX4 40 yX4_has wsX4_has) := goodIn_app (goodIn_of _ (by decide +kernel)) ggX4_from_X4_has
theorem dX4_from_0 : decode cX4_from 0 = .ok (.iconst 0, 1) := by decide +kernel
theorem dX4_from_1 : decode cX4_from 1 = .ok (.istore_n 2, 1) := by decide +kernel
theorem dX4_from_2 : decode cX4_from 2 = .ok (.iconst 0, 1) := by decide +kernel
theorem dX4_from_3 : decode cX4_from 3 = .ok (.istore_n 3, 1) := by decide +kernel
theorem dX4_from_4 : decode cX4_from 4 = .ok (.iload_n 3, 1) := by decide +kernel
theorem dX4_from_5 : decode cX4_from 5 = .ok (.aload_n 0, 1) := by decide +kernel
theorem dX4_from_6 : decode cX4_from 6 = .ok (.getfield 29, 3) := by decide +kernel
theorem dX4_from_9 : decode cX4_from 9 = .ok (.if_icmp .ge 48, 3) := by decide +kernel
theorem dX4_from_12 : decode cX4_from 12 = .ok (.aload_n 0, 1) := by decide +kernel
theorem dX4_from_13 : decode cX4_from 13 = .ok (.iload_n 3, 1) := by decide +kernel
theorem dX4_from_14 : decode cX4_from 14 = .ok (.invokevirtual 64, 3) := by decide +kernel
theorem dX4_from_17 : decode cX4_from 17 = .ok (.ifCond .eq 34, 3) := by decide +kernel
theorem dX4_from_20 : decode cX4_from 20 = .ok (.aload_n 0, 1) := by decide +kernel
theorem dX4_from_21 : decode cX4_from 21 = .ok (.getfield 9, 3) := by decide +kernel
theorem dX4_from_24 : decode cX4_from 24 = .ok (.iload_n 1, 1) := by decide +kernel
theorem dX4_from_25 : decode cX4_from 25 = .ok (.iaload, 1) := by decide +kernel
theorem dX4_from_26 : decode cX4_from 26 = .ok (.aload_n 0, 1) := by decide +kernel
theorem dX4_from_27 : decode cX4_from 27 = .ok (.getfield 13, 3) := by decide +kernel
theorem dX4_from_30 : decode cX4_from 30 = .ok (.iload_n 1, 1) := by decide +kernel
theorem dX4_from_31 : decode cX4_from 31 = .ok (.iaload, 1) := by decide +kernel
theorem dX4_from_32 : decode cX4_from 32 = .ok (.ior, 1) := by decide +kernel
theorem dX4_from_33 : decode cX4_from 33 = .ok (.iload_n 3, 1) := by decide +kernel
theorem dX4_from_34 : decode cX4_from 34 = .ok (.invokestatic 40, 3) := by decide +kernel
theorem dX4_from_37 : decode cX4_from 37 = .ok (.ifCond .eq 14, 3) := by decide +kernel
theorem dX4_from_40 : decode cX4_from 40 = .ok (.iload_n 2, 1) := by decide +kernel
theorem dX4_from_41 : decode cX4_from 41 = .ok (.aload_n 0, 1) := by decide +kernel
theorem dX4_from_42 : decode cX4_from 42 = .ok (.getfield 19, 3) := by decide +kernel
theorem dX4_from_45 : decode cX4_from 45 = .ok (.iload_n 3, 1) := by decide +kernel
theorem dX4_from_46 : decode cX4_from 46 = .ok (.iaload, 1) := by decide +kernel
theorem dX4_from_47 : decode cX4_from 47 = .ok (.invokestatic 67, 3) := by decide +kernel
theorem dX4_from_50 : decode cX4_from 50 = .ok (.istore_n 2, 1) := by decide +kernel
theorem dX4_from_51 : decode cX4_from 51 = .ok (.iinc 3 1, 3) := by decide +kernel
theorem dX4_from_54 : decode cX4_from 54 = .ok (.goto (-50), 3) := by decide +kernel
theorem dX4_from_57 : decode cX4_from 57 = .ok (.iload_n 2, 1) := by decide +kernel
theorem dX4_from_58 : decode cX4_from 58 = .ok (.ireturn, 1) := by decide +kernel
set_option maxRecDepth 20000 in
theorem ggX4_to_X4_isDated : GoodIn wsX4_to wsX4_isDated := goodIn_r _ [13, 14, 18, 19, 20, 21, 22, 23, 24] (by decide +kernel) (by decide +kernel)
set_option maxRecDepth 20000 in
theorem gX4_to_X4_isDated : GoodIn wsX4_to (wsV RX4 64 RX4 yX4_isDated wsX4_isDated) := goodIn_app (goodIn_of _ (by decide +kernel)) ggX4_to_X4_isDated
set_option maxRecDepth 20000 in
theorem ggX4_to_X4_has : GoodIn wsX4_to wsX4_has := goodIn_r _ [17] (by decide +kernel) (by decide +kernel)
set_option maxRecDepth 20000 in
theorem gX4_to_X4_has : GoodIn wsX4_to (va_wsS RX4 40 yX4_has wsX4_has) := goodIn_app (goodIn_of _ (by decide +kernel)) ggX4_to_X4_has
theorem dX4_to_0 : decode cX4_to 0 = .ok (.sipush 9999, 3) := by decide +kernel
theorem dX4_to_3 : decode cX4_to 3 = .ok (.istore_n 2, 1) := by decide +kernel
theorem dX4_to_4 : decode cX4_to 4 = .ok (.iconst 0, 1) := by decide +kernel
theorem dX4_to_5 : decode cX4_to 5 = .ok (.istore_n 3, 1) := by decide +kernel
theorem dX4_to_6 : decode cX4_to 6 = .ok (.iload_n 3, 1) := by decide +kernel
theorem dX4_to_7 : decode cX4_to 7 = .ok (.aload_n 0, 1) := by decide +kernel
theorem dX4_to_8 : decode cX4_to 8 = .ok (.getfield 29, 3) := by decide +kernel
theorem dX4_to_11 : decode cX4_to 11 = .ok (.if_icmp .ge 54, 3) := by decide +kernel
theorem dX4_to_14 : decode cX4_to 14 = .ok (.aload_n 0, 1) := by decide +kernel
theorem dX4_to_15 : decode cX4_to 15 = .ok (.iload_n 3, 1) := by decide +kernel
theorem dX4_to_16 : decode cX4_to 16 = .ok (.invokevirtual 64, 3) := by decide +kernel
theorem dX4_to_19 : decode cX4_to 19 = .ok (.ifCond .eq 40, 3) := by decide +kernel
theorem dX4_to_22 : decode cX4_to 22 = .ok (.aload_n 0, 1) := by decide +kernel
theorem dX4_to_23 : decode cX4_to 23 = .ok (.getfield 9, 3) := by decide +kernel
theorem dX4_to_26 : decode cX4_to 26 = .ok (.iload_n 1, 1) := by decide +kernel
theorem dX4_to_27 : decode cX4_to 27 = .ok (.iaload, 1) := by decide +kernel
theorem dX4_to_28 : decode cX4_to 28 = .ok (.iload_n 3, 1) := by decide +kernel
theorem dX4_to_29 : decode cX4_to 29 = .ok (.invokestatic 40, 3) := by decide +kernel
theorem dX4_to_32 : decode cX4_to 32 = .ok (.ifCond .ne 16, 3) := by decide +kernel
theorem dX4_to_35 : decode cX4_to 35 = .ok (.aload_n 0, 1) := by decide +kernel
theorem dX4_to_36 : decode cX4_to 36 = .ok (.getfield 13, 3) := by decide +kernel
theorem dX4_to_39 : decode cX4_to 39 = .ok (.iload_n 3, 1) := by decide +kernel
theorem dX4_to_40 : decode cX4_to 40 = .ok (.iaload, 1) := by decide +kernel
theorem dX4_to_41 : decode cX4_to 41 = .ok (.iload_n 1, 1) := by decide +kernel
theorem dX4_to_42 : decode cX4_to 42 = .ok (.invokestatic 40, 3) := by decide +kernel
theorem dX4_to_45 : decode cX4_to 45 = .ok (.ifCond .eq 14, 3) := by decide +kernel
theorem dX4_to_48 : decode cX4_to 48 = .ok (.iload_n 2, 1) := by decide +kernel
theorem dX4_to_49 : decode cX4_to 49 = .ok (.aload_n 0, 1) := by decide +kernel
theorem dX4_to_50 : decode cX4_to 50 = .ok (.getfield 22, 3) := by decide +kernel
theorem dX4_to_53 : decode cX4_to 53 = .ok (.iload_n 3, 1) := by decide +kernel
theorem dX4_to_54 : decode cX4_to 54 = .ok (.iaload, 1) := by decide +kernel
theorem dX4_to_55 : decode cX4_to 55 = .ok (.invokestatic 73, 3) := by decide +kernel
theorem dX4_to_58 : decode cX4_to 58 = .ok (.istore_n 2, 1) := by decide +kernel
theorem dX4_to_59 : decode cX4_to 59 = .ok (.iinc 3 1, 3) := by decide +kernel
theorem dX4_to_62 : decode cX4_to 62 = .ok (.goto (-56), 3) := by decide +kernel
theorem dX4_to_65 : decode cX4_to 65 = .ok (.iload_n 2, 1) := by decide +kernel
theorem dX4_to_66 : decode cX4_to 66 = .ok (.ireturn, 1) := by decide +kernel
set_option maxRecDepth 20000 in
theorem ggX4_isDoubtful_X4_from : GoodIn wsX4_isDoubtful wsX4_from := goodIn_r _ [5, 6, 7, 8, 9, 10, 11, 12, 13, 14, 15, 16, 4, 17, 18, 19, 20, 29, 30, 31, 32, 33, 34, 35] (by decide +kernel) (by decide +kernel)
set_option maxRecDepth 20000 in
theorem gX4_isDoubtful_X4_from : GoodIn wsX4_isDoubtful (wsV RX4 76 RX4 yX4_from wsX4_from) := goodIn_app (goodIn_of _ (by decide +kernel)) ggX4_isDoubtful_X4_from
set_option maxRecDepth 20000 in
theorem ggX4_isDoubtful_X4_to : GoodIn wsX4_isDoubtful wsX4_to := goodIn_r _ [24, 6, 7, 8, 25, 26, 27, 12, 28, 14, 15, 16, 4, 17, 9, 18, 19, 20, 29, 30, 31, 32, 33, 34, 35] (by decide +kernel) (by decide +kernel)
set_option maxRecDepth 20000 in
theorem gX4_isDoubtful_X4_to : GoodIn wsX4_isDoubtful (wsV RX4 79 RX4 yX4_to wsX4_to) := goodIn_app (goodIn_of _ (by decide +kernel)) ggX4_isDoubtful_X4_to
theorem dX4_isDoubtful_0 : decode cX4_isDoubtful 0 = .ok (.aload_n 0, 1) := by decide +kernel
theorem dX4_isDoubtful_1 : decode cX4_isDoubtful 1 = .ok (.iload_n 1, 1) := by decide +kernel
theorem dX4_isDoubtful_2 : decode cX4_isDoubtful 2 = .ok (.invokevirtual 76, 3) := by decide +kernel
theorem dX4_isDoubtful_5 : decode cX4_isDoubtful 5 = .ok (.aload_n 0, 1) := by decide +kernel
theorem dX4_isDoubtful_6 : decode cX4_isDoubtful 6 = .ok (.iload_n 1, 1) := by decide +kernel
theorem dX4_isDoubtful_7 : decode cX4_isDoubtful 7 = .ok (.invokevirtual 79, 3) := by decide +kernel
theorem dX4_isDoubtful_10 : decode cX4_isDoubtful 10 = .ok (.if_icmp .le 7, 3) := by decide +kernel
theorem dX4_isDoubtful_13 : decode cX4_isDoubtful 13 = .ok (.iconst 1, 1) := by decide +kernel
theorem dX4_isDoubtful_14 : decode cX4_isDoubtful 14 = .ok (.goto 4, 3) := by decide +kernel
theorem dX4_isDoubtful_17 : decode cX4_isDoubtful 17 = .ok (.iconst 0, 1) := by decide +kernel
theorem dX4_isDoubtful_18 : decode cX4_isDoubtful 18 = .ok (.ireturn, 1) := by decide +kernel
set_option maxRecDepth 20000 in
theorem ggX4_hearth_X4_isLayer : GoodIn wsX4_hearth wsX4_isLayer := goodIn_r _ [8, 9, 10, 11, 7, 12, 34, 35, 36, 37, 38, 39, 40] (by decide +kernel) (by decide +kernel)
set_option maxRecDepth 20000 in
theorem gX4_hearth_X4_isLayer : GoodIn wsX4_hearth (wsV RX4 44 RX4 yX4_isLayer wsX4_isLayer) := goodIn_app (goodIn_of _ (by decide +kernel)) ggX4_hearth_X4_isLayer
set_option maxRecDepth 20000 in
theorem ggX4_hearth_X4_fail : GoodIn wsX4_hearth wsX4_fail := goodIn_r _ [16, 1, 34, 35, 36, 37, 38, 39, 40] (by decide +kernel) (by decide +kernel)
set_option maxRecDepth 20000 in
theorem gX4_hearth_X4_fail : GoodIn wsX4_hearth (wsV RX4 36 RX4 yX4_fail wsX4_fail) := goodIn_app (goodIn_of _ (by decide +kernel)) ggX4_hearth_X4_fail
set_option maxRecDepth 20000 in
theorem ggX4_hearth_X4_from : GoodIn wsX4_hearth wsX4_from := goodIn_r _ [20, 9, 21, 22, 2, 23, 24, 25, 26, 27, 28, 29, 7, 30, 31, 32, 33, 34, 35, 36, 37, 38, 39, 40] (by decide +kernel) (by decide +kernel)
set_option maxRecDepth 20000 in
theorem gX4_hearth_X4_from : GoodIn wsX4_hearth (wsV RX4 76 RX4 yX4_from wsX4_from) := goodIn_app (goodIn_of _ (by decide +kernel)) ggX4_hearth_X4_from
theorem dX4_hearth_0 : decode cX4_hearth 0 = .ok (.aload_n 0, 1) := by decide +kernel
theorem dX4_hearth_1 : decode cX4_hearth 1 = .ok (.iconst 0, 1) := by decide +kernel
theorem dX4_hearth_2 : decode cX4_hearth 2 = .ok (.putfield 25, 3) := by decide +kernel
theorem dX4_hearth_5 : decode cX4_hearth 5 = .ok (.aload_n 0, 1) := by decide +kernel
theorem dX4_hearth_6 : decode cX4_hearth 6 = .ok (.iload_n 1, 1) := by decide +kernel
theorem dX4_hearth_7 : decode cX4_hearth 7 = .ok (.invokevirtual 44, 3) := by decide +kernel
theorem dX4_hearth_10 : decode cX4_hearth 10 = .ok (.ifCond .ne 9, 3) := by decide +kernel
theorem dX4_hearth_13 : decode cX4_hearth 13 = .ok (.aload_n 0, 1) := by decide +kernel
theorem dX4_hearth_14 : decode cX4_hearth 14 = .ok (.iconst 1, 1) := by decide +kernel
theorem dX4_hearth_15 : decode cX4_hearth 15 = .ok (.invokevirtual 36, 3) := by decide +kernel
theorem dX4_hearth_18 : decode cX4_hearth 18 = .ok (.ireturn, 1) := by decide +kernel
theorem dX4_hearth_19 : decode cX4_hearth 19 = .ok (.iload_n 2, 1) := by decide +kernel
theorem dX4_hearth_20 : decode cX4_hearth 20 = .ok (.ifCond .lt 15, 3) := by decide +kernel
theorem dX4_hearth_23 : decode cX4_hearth 23 = .ok (.iload_n 3, 1) := by decide +kernel
theorem dX4_hearth_24 : decode cX4_hearth 24 = .ok (.sipush 9999, 3) := by decide +kernel
theorem dX4_hearth_27 : decode cX4_hearth 27 = .ok (.if_icmp .gt 8, 3) := by decide +kernel
theorem dX4_hearth_30 : decode cX4_hearth 30 = .ok (.iload_n 2, 1) := by decide +kernel
theorem dX4_hearth_31 : decode cX4_hearth 31 = .ok (.iload_n 3, 1) := by decide +kernel
theorem dX4_hearth_32 : decode cX4_hearth 32 = .ok (.if_icmp .le 9, 3) := by decide +kernel
theorem dX4_hearth_35 : decode cX4_hearth 35 = .ok (.aload_n 0, 1) := by decide +kernel
theorem dX4_hearth_36 : decode cX4_hearth 36 = .ok (.iconst 2, 1) := by decide +kernel
theorem dX4_hearth_37 : decode cX4_hearth 37 = .ok (.invokevirtual 36, 3) := by decide +kernel
theorem dX4_hearth_40 : decode cX4_hearth 40 = .ok (.ireturn, 1) := by decide +kernel
theorem dX4_hearth_41 : decode cX4_hearth 41 = .ok (.aload_n 0, 1) := by decide +kernel
theorem dX4_hearth_42 : decode cX4_hearth 42 = .ok (.getfield 19, 3) := by decide +kernel
theorem dX4_hearth_45 : decode cX4_hearth 45 = .ok (.iload_n 1, 1) := by decide +kernel
theorem dX4_hearth_46 : decode cX4_hearth 46 = .ok (.iload_n 2, 1) := by decide +kernel
theorem dX4_hearth_47 : decode cX4_hearth 47 = .ok (.iastore, 1) := by decide +kernel
theorem dX4_hearth_48 : decode cX4_hearth 48 = .ok (.aload_n 0, 1) := by decide +kernel
theorem dX4_hearth_49 : decode cX4_hearth 49 = .ok (.getfield 22, 3) := by decide +kernel
theorem dX4_hearth_52 : decode cX4_hearth 52 = .ok (.iload_n 1, 1) := by decide +kernel
theorem dX4_hearth_53 : decode cX4_hearth 53 = .ok (.iload_n 3, 1) := by decide +kernel
theorem dX4_hearth_54 : decode cX4_hearth 54 = .ok (.iastore, 1) := by decide +kernel
theorem dX4_hearth_55 : decode cX4_hearth 55 = .ok (.aload_n 0, 1) := by decide +kernel
theorem dX4_hearth_56 : decode cX4_hearth 56 = .ok (.iload_n 1, 1) := by decide +kernel
theorem dX4_hearth_57 : decode cX4_hearth 57 = .ok (.invokevirtual 76, 3) := by decide +kernel
theorem dX4_hearth_60 : decode cX4_hearth 60 = .ok (.ireturn, 1) := by decide +kernel
set_option maxRecDepth 20000 in
theorem ggX4_clear_X4_isLayer : GoodIn wsX4_clear wsX4_isLayer := goodIn_r _ [7, 8, 9, 10, 6, 11, 20, 21, 22, 23, 24, 25, 26] (by decide +kernel) (by decide +kernel)
set_option maxRecDepth 20000 in
theorem gX4_clear_X4_isLayer : GoodIn wsX4_clear (wsV RX4 44 RX4 yX4_isLayer wsX4_isLayer) := goodIn_app (goodIn_of _ (by decide +kernel)) ggX4_clear_X4_isLayer
set_option maxRecDepth 20000 in
theorem ggX4_clear_X4_fail : GoodIn wsX4_clear wsX4_fail := goodIn_r _ [15, 1, 20, 21, 22, 23, 24, 25, 26] (by decide +kernel) (by decide +kernel)
set_option maxRecDepth 20000 in
theorem gX4_clear_X4_fail : GoodIn wsX4_clear (wsV RX4 36 RX4 yX4_fail wsX4_fail) := goodIn_app (goodIn_of _ (by decide +kernel)) ggX4_clear_X4_fail
set_option maxRecDepth 20000 in
theorem ggX4_clear_X4_isDated : GoodIn wsX4_clear wsX4_isDated := goodIn_r _ [19, 2, 20, 21, 22, 23, 24, 25, 26] (by decide +kernel) (by decide +kernel)
set_option maxRecDepth 20000 in
theorem gX4_clear_X4_isDated : GoodIn wsX4_clear (wsV RX4 64 RX4 yX4_isDated wsX4_isDated) := goodIn_app (goodIn_of _ (by decide +kernel)) ggX4_clear_X4_isDated
theorem dX4_clear_0 : decode cX4_clear 0 = .ok (.aload_n 0, 1) := by decide +kernel
theorem dX4_clear_1 : decode cX4_clear 1 = .ok (.iconst 0, 1) := by decide +kernel
theorem dX4_clear_2 : decode cX4_clear 2 = .ok (.putfield 25, 3) := by decide +kernel
theorem dX4_clear_5 : decode cX4_clear 5 = .ok (.aload_n 0, 1) := by decide +kernel
theorem dX4_clear_6 : decode cX4_clear 6 = .ok (.iload_n 1, 1) := by decide +kernel
theorem dX4_clear_7 : decode cX4_clear 7 = .ok (.invokevirtual 44, 3) := by decide +kernel
theorem dX4_clear_10 : decode cX4_clear 10 = .ok (.ifCond .ne 9, 3) := by decide +kernel
theorem dX4_clear_13 : decode cX4_clear 13 = .ok (.aload_n 0, 1) := by decide +kernel
theorem dX4_clear_14 : decode cX4_clear 14 = .ok (.iconst 1, 1) := by decide +kernel
theorem dX4_clear_15 : decode cX4_clear 15 = .ok (.invokevirtual 36, 3) := by decide +kernel
theorem dX4_clear_18 : decode cX4_clear 18 = .ok (.ireturn, 1) := by decide +kernel
theorem dX4_clear_19 : decode cX4_clear 19 = .ok (.aload_n 0, 1) := by decide +kernel
theorem dX4_clear_20 : decode cX4_clear 20 = .ok (.iload_n 1, 1) := by decide +kernel
theorem dX4_clear_21 : decode cX4_clear 21 = .ok (.invokevirtual 64, 3) := by decide +kernel
theorem dX4_clear_24 : decode cX4_clear 24 = .ok (.ifCond .ne 9, 3) := by decide +kernel
theorem dX4_clear_27 : decode cX4_clear 27 = .ok (.aload_n 0, 1) := by decide +kernel
theorem dX4_clear_28 : decode cX4_clear 28 = .ok (.iconst 2, 1) := by decide +kernel
theorem dX4_clear_29 : decode cX4_clear 29 = .ok (.invokevirtual 36, 3) := by decide +kernel
theorem dX4_clear_32 : decode cX4_clear 32 = .ok (.ireturn, 1) := by decide +kernel
theorem dX4_clear_33 : decode cX4_clear 33 = .ok (.aload_n 0, 1) := by decide +kernel
theorem dX4_clear_34 : decode cX4_clear 34 = .ok (.getfield 19, 3) := by decide +kernel
theorem dX4_clear_37 : decode cX4_clear 37 = .ok (.iload_n 1, 1) := by decide +kernel
theorem dX4_clear_38 : decode cX4_clear 38 = .ok (.iaload, 1) := by decide +kernel
theorem dX4_clear_39 : decode cX4_clear 39 = .ok (.istore_n 2, 1) := by decide +kernel
theorem dX4_clear_40 : decode cX4_clear 40 = .ok (.aload_n 0, 1) := by decide +kernel
theorem dX4_clear_41 : decode cX4_clear 41 = .ok (.getfield 19, 3) := by decide +kernel
theorem dX4_clear_44 : decode cX4_clear 44 = .ok (.iload_n 1, 1) := by decide +kernel
theorem dX4_clear_45 : decode cX4_clear 45 = .ok (.iconst (-1), 1) := by decide +kernel
theorem dX4_clear_46 : decode cX4_clear 46 = .ok (.iastore, 1) := by decide +kernel
theorem dX4_clear_47 : decode cX4_clear 47 = .ok (.iload_n 2, 1) := by decide +kernel
theorem dX4_clear_48 : decode cX4_clear 48 = .ok (.ireturn, 1) := by decide +kernel
set_option maxRecDepth 20000 in
theorem ggX4_later_X4_isLayer : GoodIn wsX4_later wsX4_isLayer := goodIn_r _ [7, 8, 9, 10, 6, 11, 15, 16, 17, 18, 19, 20, 21] (by decide +kernel) (by decide +kernel)
set_option maxRecDepth 20000 in
theorem gX4_later_X4_isLayer : GoodIn wsX4_later (wsV RX4 44 RX4 yX4_isLayer wsX4_isLayer) := goodIn_app (goodIn_of _ (by decide +kernel)) ggX4_later_X4_isLayer
set_option maxRecDepth 20000 in
theorem ggX4_later_X4_has : GoodIn wsX4_later wsX4_has := goodIn_r _ [14] (by decide +kernel) (by decide +kernel)
set_option maxRecDepth 20000 in
theorem gX4_later_X4_has : GoodIn wsX4_later (va_wsS RX4 40 yX4_has wsX4_has) := goodIn_app (goodIn_of _ (by decide +kernel)) ggX4_later_X4_has
theorem dX4_later_0 : decode cX4_later 0 = .ok (.aload_n 0, 1) := by decide +kernel
theorem dX4_later_1 : decode cX4_later 1 = .ok (.aload_n 0, 1) := by decide +kernel
theorem dX4_later_2 : decode cX4_later 2 = .ok (.iload_n 1, 1) := by decide +kernel
theorem dX4_later_3 : decode cX4_later 3 = .ok (.invokevirtual 44, 3) := by decide +kernel
theorem dX4_later_6 : decode cX4_later 6 = .ok (.ifCond .eq 15, 3) := by decide +kernel
theorem dX4_later_9 : decode cX4_later 9 = .ok (.aload_n 0, 1) := by decide +kernel
theorem dX4_later_10 : decode cX4_later 10 = .ok (.iload_n 2, 1) := by decide +kernel
theorem dX4_later_11 : decode cX4_later 11 = .ok (.invokevirtual 44, 3) := by decide +kernel
theorem dX4_later_14 : decode cX4_later 14 = .ok (.ifCond .eq 7, 3) := by decide +kernel
theorem dX4_later_17 : decode cX4_later 17 = .ok (.iconst 0, 1) := by decide +kernel
theorem dX4_later_18 : decode cX4_later 18 = .ok (.goto 4, 3) := by decide +kernel
theorem dX4_later_21 : decode cX4_later 21 = .ok (.iconst 1, 1) := by decide +kernel
theorem dX4_later_22 : decode cX4_later 22 = .ok (.putfield 25, 3) := by decide +kernel
theorem dX4_later_25 : decode cX4_later 25 = .ok (.aload_n 0, 1) := by decide +kernel
theorem dX4_later_26 : decode cX4_later 26 = .ok (.getfield 25, 3) := by decide +kernel
theorem dX4_later_29 : decode cX4_later 29 = .ok (.ifCond .ne 20, 3) := by decide +kernel
theorem dX4_later_32 : decode cX4_later 32 = .ok (.aload_n 0, 1) := by decide +kernel
theorem dX4_later_33 : decode cX4_later 33 = .ok (.getfield 13, 3) := by decide +kernel
theorem dX4_later_36 : decode cX4_later 36 = .ok (.iload_n 1, 1) := by decide +kernel
theorem dX4_later_37 : decode cX4_later 37 = .ok (.iaload, 1) := by decide +kernel
theorem dX4_later_38 : decode cX4_later 38 = .ok (.iload_n 2, 1) := by decide +kernel
theorem dX4_later_39 : decode cX4_later 39 = .ok (.invokestatic 40, 3) := by decide +kernel
theorem dX4_later_42 : decode cX4_later 42 = .ok (.ifCond .eq 7, 3) := by decide +kernel
theorem dX4_later_45 : decode cX4_later 45 = .ok (.iconst 1, 1) := by decide +kernel
theorem dX4_later_46 : decode cX4_later 46 = .ok (.goto 4, 3) := by decide +kernel
theorem dX4_later_49 : decode cX4_later 49 = .ok (.iconst 0, 1) := by decide +kernel
theorem dX4_later_50 : decode cX4_later 50 = .ok (.ireturn, 1) := by decide +kernel
set_option maxRecDepth 20000 in
theorem ggX4_phases_X4_has : GoodIn wsX4_phases wsX4_has := goodIn_r _ [11] (by decide +kernel) (by decide +kernel)
set_option maxRecDepth 20000 in
theorem gX4_phases_X4_has : GoodIn wsX4_phases (va_wsS RX4 40 yX4_has wsX4_has) := goodIn_app (goodIn_of _ (by decide +kernel)) ggX4_phases_X4_has
theorem dX4_phases_0 : decode cX4_phases 0 = .ok (.bipush 14, 2) := by decide +kernel
theorem dX4_phases_2 : decode cX4_phases 2 = .ok (.newarray .int, 2) := by decide +kernel
theorem dX4_phases_4 : decode cX4_phases 4 = .ok (.astore_n 1, 1) := by decide +kernel
theorem dX4_phases_5 : decode cX4_phases 5 = .ok (.iconst 0, 1) := by decide +kernel
theorem dX4_phases_6 : decode cX4_phases 6 = .ok (.istore_n 2, 1) := by decide +kernel
theorem dX4_phases_7 : decode cX4_phases 7 = .ok (.iload_n 2, 1) := by decide +kernel
theorem dX4_phases_8 : decode cX4_phases 8 = .ok (.aload_n 0, 1) := by decide +kernel
theorem dX4_phases_9 : decode cX4_phases 9 = .ok (.getfield 29, 3) := by decide +kernel
theorem dX4_phases_12 : decode cX4_phases 12 = .ok (.if_icmp .ge 72, 3) := by decide +kernel
theorem dX4_phases_15 : decode cX4_phases 15 = .ok (.iconst 0, 1) := by decide +kernel
theorem dX4_phases_16 : decode cX4_phases 16 = .ok (.istore_n 3, 1) := by decide +kernel
theorem dX4_phases_17 : decode cX4_phases 17 = .ok (.iload_n 3, 1) := by decide +kernel
theorem dX4_phases_18 : decode cX4_phases 18 = .ok (.aload_n 0, 1) := by decide +kernel
theorem dX4_phases_19 : decode cX4_phases 19 = .ok (.getfield 29, 3) := by decide +kernel
theorem dX4_phases_22 : decode cX4_phases 22 = .ok (.if_icmp .ge 56, 3) := by decide +kernel
theorem dX4_phases_25 : decode cX4_phases 25 = .ok (.iconst 0, 1) := by decide +kernel
theorem dX4_phases_26 : decode cX4_phases 26 = .ok (.istore 4, 2) := by decide +kernel
theorem dX4_phases_28 : decode cX4_phases 28 = .ok (.iload 4, 2) := by decide +kernel
theorem dX4_phases_30 : decode cX4_phases 30 = .ok (.aload_n 0, 1) := by decide +kernel
theorem dX4_phases_31 : decode cX4_phases 31 = .ok (.getfield 29, 3) := by decide +kernel
theorem dX4_phases_34 : decode cX4_phases 34 = .ok (.if_icmp .ge 38, 3) := by decide +kernel
theorem dX4_phases_37 : decode cX4_phases 37 = .ok (.aload_n 0, 1) := by decide +kernel
theorem dX4_phases_38 : decode cX4_phases 38 = .ok (.getfield 13, 3) := by decide +kernel
theorem dX4_phases_41 : decode cX4_phases 41 = .ok (.iload_n 3, 1) := by decide +kernel
theorem dX4_phases_42 : decode cX4_phases 42 = .ok (.iaload, 1) := by decide +kernel
theorem dX4_phases_43 : decode cX4_phases 43 = .ok (.iload 4, 2) := by decide +kernel
theorem dX4_phases_45 : decode cX4_phases 45 = .ok (.invokestatic 40, 3) := by decide +kernel
theorem dX4_phases_48 : decode cX4_phases 48 = .ok (.ifCond .eq 18, 3) := by decide +kernel
theorem dX4_phases_51 : decode cX4_phases 51 = .ok (.aload_n 1, 1) := by decide +kernel
theorem dX4_phases_52 : decode cX4_phases 52 = .ok (.iload_n 3, 1) := by decide +kernel
theorem dX4_phases_53 : decode cX4_phases 53 = .ok (.aload_n 1, 1) := by decide +kernel
theorem dX4_phases_54 : decode cX4_phases 54 = .ok (.iload_n 3, 1) := by decide +kernel
theorem dX4_phases_55 : decode cX4_phases 55 = .ok (.iaload, 1) := by decide +kernel
theorem dX4_phases_56 : decode cX4_phases 56 = .ok (.aload_n 1, 1) := by decide +kernel
theorem dX4_phases_57 : decode cX4_phases 57 = .ok (.iload 4, 2) := by decide +kernel
theorem dX4_phases_59 : decode cX4_phases 59 = .ok (.iaload, 1) := by decide +kernel
theorem dX4_phases_60 : decode cX4_phases 60 = .ok (.iconst 1, 1) := by decide +kernel
theorem dX4_phases_61 : decode cX4_phases 61 = .ok (.iadd, 1) := by decide +kernel
theorem dX4_phases_62 : decode cX4_phases 62 = .ok (.invokestatic 67, 3) := by decide +kernel
theorem dX4_phases_65 : decode cX4_phases 65 = .ok (.iastore, 1) := by decide +kernel
theorem dX4_phases_66 : decode cX4_phases 66 = .ok (.iinc 4 1, 3) := by decide +kernel
theorem dX4_phases_69 : decode cX4_phases 69 = .ok (.goto (-41), 3) := by decide +kernel
theorem dX4_phases_72 : decode cX4_phases 72 = .ok (.iinc 3 1, 3) := by decide +kernel
theorem dX4_phases_75 : decode cX4_phases 75 = .ok (.goto (-58), 3) := by decide +kernel
theorem dX4_phases_78 : decode cX4_phases 78 = .ok (.iinc 2 1, 3) := by decide +kernel
theorem dX4_phases_81 : decode cX4_phases 81 = .ok (.goto (-74), 3) := by decide +kernel
theorem dX4_phases_84 : decode cX4_phases 84 = .ok (.aload_n 1, 1) := by decide +kernel
theorem dX4_phases_85 : decode cX4_phases 85 = .ok (.areturn, 1) := by decide +kernel
set_option maxRecDepth 20000 in
theorem ggX4_all_X4_has : GoodIn wsX4_all wsX4_has := goodIn_r _ [7] (by decide +kernel) (by decide +kernel)
set_option maxRecDepth 20000 in
theorem gX4_all_X4_has : GoodIn wsX4_all (va_wsS RX4 40 yX4_has wsX4_has) := goodIn_app (goodIn_of _ (by decide +kernel)) ggX4_all_X4_has
theorem dX4_all_0 : decode cX4_all 0 = .ok (.iconst 0, 1) := by decide +kernel
theorem dX4_all_1 : decode cX4_all 1 = .ok (.istore_n 3, 1) := by decide +kernel
theorem dX4_all_2 : decode cX4_all 2 = .ok (.iconst 0, 1) := by decide +kernel
theorem dX4_all_3 : decode cX4_all 3 = .ok (.istore 4, 2) := by decide +kernel
theorem dX4_all_5 : decode cX4_all 5 = .ok (.iload 4, 2) := by decide +kernel
theorem dX4_all_7 : decode cX4_all 7 = .ok (.aload_n 0, 1) := by decide +kernel
theorem dX4_all_8 : decode cX4_all 8 = .ok (.getfield 29, 3) := by decide +kernel
theorem dX4_all_11 : decode cX4_all 11 = .ok (.if_icmp .ge 41, 3) := by decide +kernel
theorem dX4_all_14 : decode cX4_all 14 = .ok (.iload_n 3, 1) := by decide +kernel
theorem dX4_all_15 : decode cX4_all 15 = .ok (.aload_n 0, 1) := by decide +kernel
theorem dX4_all_16 : decode cX4_all 16 = .ok (.getfield 9, 3) := by decide +kernel
theorem dX4_all_19 : decode cX4_all 19 = .ok (.iload_n 1, 1) := by decide +kernel
theorem dX4_all_20 : decode cX4_all 20 = .ok (.iaload, 1) := by decide +kernel
theorem dX4_all_21 : decode cX4_all 21 = .ok (.iload 4, 2) := by decide +kernel
theorem dX4_all_23 : decode cX4_all 23 = .ok (.invokestatic 40, 3) := by decide +kernel
theorem dX4_all_26 : decode cX4_all 26 = .ok (.ifCond .eq 17, 3) := by decide +kernel
theorem dX4_all_29 : decode cX4_all 29 = .ok (.aload_n 0, 1) := by decide +kernel
theorem dX4_all_30 : decode cX4_all 30 = .ok (.getfield 16, 3) := by decide +kernel
theorem dX4_all_33 : decode cX4_all 33 = .ok (.iconst 4, 1) := by decide +kernel
theorem dX4_all_34 : decode cX4_all 34 = .ok (.iload 4, 2) := by decide +kernel
theorem dX4_all_36 : decode cX4_all 36 = .ok (.imul, 1) := by decide +kernel
theorem dX4_all_37 : decode cX4_all 37 = .ok (.iload_n 2, 1) := by decide +kernel
theorem dX4_all_38 : decode cX4_all 38 = .ok (.iadd, 1) := by decide +kernel
theorem dX4_all_39 : decode cX4_all 39 = .ok (.iaload, 1) := by decide +kernel
theorem dX4_all_40 : decode cX4_all 40 = .ok (.goto 4, 3) := by decide +kernel
theorem dX4_all_43 : decode cX4_all 43 = .ok (.iconst 0, 1) := by decide +kernel
theorem dX4_all_44 : decode cX4_all 44 = .ok (.iadd, 1) := by decide +kernel
theorem dX4_all_45 : decode cX4_all 45 = .ok (.istore_n 3, 1) := by decide +kernel
theorem dX4_all_46 : decode cX4_all 46 = .ok (.iinc 4 1, 3) := by decide +kernel
theorem dX4_all_49 : decode cX4_all 49 = .ok (.goto (-44), 3) := by decide +kernel
theorem dX4_all_52 : decode cX4_all 52 = .ok (.iload_n 3, 1) := by decide +kernel
theorem dX4_all_53 : decode cX4_all 53 = .ok (.ireturn, 1) := by decide +kernel
set_option maxRecDepth 20000 in
theorem ggX4_season_X4_all : GoodIn wsX4_season wsX4_all := goodIn_r _ [6, 7, 8, 9, 10, 11, 5, 12, 13, 14, 15, 16, 17, 18, 19] (by decide +kernel) (by decide +kernel)
set_option maxRecDepth 20000 in
theorem gX4_season_X4_all : GoodIn wsX4_season (wsV RX4 82 RX4 yX4_all wsX4_all) := goodIn_app (goodIn_of _ (by decide +kernel)) ggX4_season_X4_all
theorem dX4_season_0 : decode cX4_season 0 = .ok (.aload_n 0, 1) := by decide +kernel
theorem dX4_season_1 : decode cX4_season 1 = .ok (.iload_n 1, 1) := by decide +kernel
theorem dX4_season_2 : decode cX4_season 2 = .ok (.iconst 0, 1) := by decide +kernel
theorem dX4_season_3 : decode cX4_season 3 = .ok (.invokevirtual 82, 3) := by decide +kernel
theorem dX4_season_6 : decode cX4_season 6 = .ok (.istore_n 2, 1) := by decide +kernel
theorem dX4_season_7 : decode cX4_season 7 = .ok (.aload_n 0, 1) := by decide +kernel
theorem dX4_season_8 : decode cX4_season 8 = .ok (.iload_n 1, 1) := by decide +kernel
theorem dX4_season_9 : decode cX4_season 9 = .ok (.iconst 1, 1) := by decide +kernel
theorem dX4_season_10 : decode cX4_season 10 = .ok (.invokevirtual 82, 3) := by decide +kernel
theorem dX4_season_13 : decode cX4_season 13 = .ok (.istore_n 3, 1) := by decide +kernel
theorem dX4_season_14 : decode cX4_season 14 = .ok (.aload_n 0, 1) := by decide +kernel
theorem dX4_season_15 : decode cX4_season 15 = .ok (.iload_n 1, 1) := by decide +kernel
theorem dX4_season_16 : decode cX4_season 16 = .ok (.iconst 2, 1) := by decide +kernel
theorem dX4_season_17 : decode cX4_season 17 = .ok (.invokevirtual 82, 3) := by decide +kernel
theorem dX4_season_20 : decode cX4_season 20 = .ok (.istore 4, 2) := by decide +kernel
theorem dX4_season_22 : decode cX4_season 22 = .ok (.aload_n 0, 1) := by decide +kernel
theorem dX4_season_23 : decode cX4_season 23 = .ok (.iload_n 1, 1) := by decide +kernel
theorem dX4_season_24 : decode cX4_season 24 = .ok (.iconst 3, 1) := by decide +kernel
theorem dX4_season_25 : decode cX4_season 25 = .ok (.invokevirtual 82, 3) := by decide +kernel
theorem dX4_season_28 : decode cX4_season 28 = .ok (.istore 5, 2) := by decide +kernel
theorem dX4_season_30 : decode cX4_season 30 = .ok (.iconst 4, 1) := by decide +kernel
theorem dX4_season_31 : decode cX4_season 31 = .ok (.newarray .int, 2) := by decide +kernel
theorem dX4_season_33 : decode cX4_season 33 = .ok (.dup, 1) := by decide +kernel
theorem dX4_season_34 : decode cX4_season 34 = .ok (.iconst 0, 1) := by decide +kernel
theorem dX4_season_35 : decode cX4_season 35 = .ok (.iconst 3, 1) := by decide +kernel
theorem dX4_season_36 : decode cX4_season 36 = .ok (.iload_n 2, 1) := by decide +kernel
theorem dX4_season_37 : decode cX4_season 37 = .ok (.imul, 1) := by decide +kernel
theorem dX4_season_38 : decode cX4_season 38 = .ok (.iload 5, 2) := by decide +kernel
theorem dX4_season_40 : decode cX4_season 40 = .ok (.iadd, 1) := by decide +kernel
theorem dX4_season_41 : decode cX4_season 41 = .ok (.iastore, 1) := by decide +kernel
theorem dX4_season_42 : decode cX4_season 42 = .ok (.dup, 1) := by decide +kernel
theorem dX4_season_43 : decode cX4_season 43 = .ok (.iconst 1, 1) := by decide +kernel
theorem dX4_season_44 : decode cX4_season 44 = .ok (.iconst 2, 1) := by decide +kernel
theorem dX4_season_45 : decode cX4_season 45 = .ok (.iload_n 3, 1) := by decide +kernel
theorem dX4_season_46 : decode cX4_season 46 = .ok (.imul, 1) := by decide +kernel
theorem dX4_season_47 : decode cX4_season 47 = .ok (.iload 4, 2) := by decide +kernel
theorem dX4_season_49 : decode cX4_season 49 = .ok (.iconst 2, 1) := by decide +kernel
theorem dX4_season_50 : decode cX4_season 50 = .ok (.idiv, 1) := by decide +kernel
theorem dX4_season_51 : decode cX4_season 51 = .ok (.iadd, 1) := by decide +kernel
theorem dX4_season_52 : decode cX4_season 52 = .ok (.iastore, 1) := by decide +kernel
theorem dX4_season_53 : decode cX4_season 53 = .ok (.dup, 1) := by decide +kernel
theorem dX4_season_54 : decode cX4_season 54 = .ok (.iconst 2, 1) := by decide +kernel
theorem dX4_season_55 : decode cX4_season 55 = .ok (.iconst 2, 1) := by decide +kernel
theorem dX4_season_56 : decode cX4_season 56 = .ok (.iload 4, 2) := by decide +kernel
theorem dX4_season_58 : decode cX4_season 58 = .ok (.imul, 1) := by decide +kernel
theorem dX4_season_59 : decode cX4_season 59 = .ok (.iload_n 3, 1) := by decide +kernel
theorem dX4_season_60 : decode cX4_season 60 = .ok (.iadd, 1) := by decide +kernel
theorem dX4_season_61 : decode cX4_season 61 = .ok (.iastore, 1) := by decide +kernel
theorem dX4_season_62 : decode cX4_season 62 = .ok (.dup, 1) := by decide +kernel
theorem dX4_season_63 : decode cX4_season 63 = .ok (.iconst 3, 1) := by decide +kernel
theorem dX4_season_64 : decode cX4_season 64 = .ok (.iconst 4, 1) := by decide +kernel
theorem dX4_season_65 : decode cX4_season 65 = .ok (.iload 5, 2) := by decide +kernel
theorem dX4_season_67 : decode cX4_season 67 = .ok (.imul, 1) := by decide +kernel
theorem dX4_season_68 : decode cX4_season 68 = .ok (.iload_n 2, 1) := by decide +kernel
theorem dX4_season_69 : decode cX4_season 69 = .ok (.iadd, 1) := by decide +kernel
theorem dX4_season_70 : decode cX4_season 70 = .ok (.iastore, 1) := by decide +kernel
theorem dX4_season_71 : decode cX4_season 71 = .ok (.astore 6, 2) := by decide +kernel
theorem dX4_season_73 : decode cX4_season 73 = .ok (.iconst 0, 1) := by decide +kernel
theorem dX4_season_74 : decode cX4_season 74 = .ok (.istore 7, 2) := by decide +kernel
theorem dX4_season_76 : decode cX4_season 76 = .ok (.iconst 1, 1) := by decide +kernel
theorem dX4_season_77 : decode cX4_season 77 = .ok (.istore 8, 2) := by decide +kernel
theorem dX4_season_79 : decode cX4_season 79 = .ok (.iload 8, 2) := by decide +kernel
theorem dX4_season_81 : decode cX4_season 81 = .ok (.iconst 4, 1) := by decide +kernel
theorem dX4_season_82 : decode cX4_season 82 = .ok (.if_icmp .ge 26, 3) := by decide +kernel
theorem dX4_season_85 : decode cX4_season 85 = .ok (.aload 6, 2) := by decide +kernel
theorem dX4_season_87 : decode cX4_season 87 = .ok (.iload 8, 2) := by decide +kernel
theorem dX4_season_89 : decode cX4_season 89 = .ok (.iaload, 1) := by decide +kernel
theorem dX4_season_90 : decode cX4_season 90 = .ok (.aload 6, 2) := by decide +kernel
theorem dX4_season_92 : decode cX4_season 92 = .ok (.iload 7, 2) := by decide +kernel
theorem dX4_season_94 : decode cX4_season 94 = .ok (.iaload, 1) := by decide +kernel
theorem dX4_season_95 : decode cX4_season 95 = .ok (.if_icmp .le 7, 3) := by decide +kernel
theorem dX4_season_98 : decode cX4_season 98 = .ok (.iload 8, 2) := by decide +kernel
theorem dX4_season_100 : decode cX4_season 100 = .ok (.istore 7, 2) := by decide +kernel
theorem dX4_season_102 : decode cX4_season 102 = .ok (.iinc 8 1, 3) := by decide +kernel
theorem dX4_season_105 : decode cX4_season 105 = .ok (.goto (-26), 3) := by decide +kernel
theorem dX4_season_108 : decode cX4_season 108 = .ok (.iload_n 2, 1) := by decide +kernel
theorem dX4_season_109 : decode cX4_season 109 = .ok (.iload_n 3, 1) := by decide +kernel
theorem dX4_season_110 : decode cX4_season 110 = .ok (.iadd, 1) := by decide +kernel
theorem dX4_season_111 : decode cX4_season 111 = .ok (.iload 4, 2) := by decide +kernel
theorem dX4_season_113 : decode cX4_season 113 = .ok (.iadd, 1) := by decide +kernel
theorem dX4_season_114 : decode cX4_season 114 = .ok (.iload 5, 2) := by decide +kernel
theorem dX4_season_116 : decode cX4_season 116 = .ok (.iadd, 1) := by decide +kernel
theorem dX4_season_117 : decode cX4_season 117 = .ok (.ifCond .ne 7, 3) := by decide +kernel
theorem dX4_season_120 : decode cX4_season 120 = .ok (.iconst (-1), 1) := by decide +kernel
theorem dX4_season_121 : decode cX4_season 121 = .ok (.goto 5, 3) := by decide +kernel
theorem dX4_season_124 : decode cX4_season 124 = .ok (.iload 7, 2) := by decide +kernel
theorem dX4_season_126 : decode cX4_season 126 = .ok (.ireturn, 1) := by decide +kernel
set_option maxRecDepth 20000 in
theorem ggX4_laterThan_X4_has : GoodIn wsX4_laterThan wsX4_has := goodIn_r _ [6] (by decide +kernel) (by decide +kernel)
set_option maxRecDepth 20000 in
theorem gX4_laterThan_X4_has : GoodIn wsX4_laterThan (va_wsS RX4 40 yX4_has wsX4_has) := goodIn_app (goodIn_of _ (by decide +kernel)) ggX4_laterThan_X4_has
theorem dX4_laterThan_0 : decode cX4_laterThan 0 = .ok (.iconst 0, 1) := by decide +kernel
theorem dX4_laterThan_1 : decode cX4_laterThan 1 = .ok (.istore_n 2, 1) := by decide +kernel
theorem dX4_laterThan_2 : decode cX4_laterThan 2 = .ok (.iconst 0, 1) := by decide +kernel
theorem dX4_laterThan_3 : decode cX4_laterThan 3 = .ok (.istore_n 3, 1) := by decide +kernel
theorem dX4_laterThan_4 : decode cX4_laterThan 4 = .ok (.iload_n 3, 1) := by decide +kernel
theorem dX4_laterThan_5 : decode cX4_laterThan 5 = .ok (.aload_n 0, 1) := by decide +kernel
theorem dX4_laterThan_6 : decode cX4_laterThan 6 = .ok (.getfield 29, 3) := by decide +kernel
theorem dX4_laterThan_9 : decode cX4_laterThan 9 = .ok (.if_icmp .ge 30, 3) := by decide +kernel
theorem dX4_laterThan_12 : decode cX4_laterThan 12 = .ok (.iload_n 2, 1) := by decide +kernel
theorem dX4_laterThan_13 : decode cX4_laterThan 13 = .ok (.aload_n 0, 1) := by decide +kernel
theorem dX4_laterThan_14 : decode cX4_laterThan 14 = .ok (.getfield 13, 3) := by decide +kernel
theorem dX4_laterThan_17 : decode cX4_laterThan 17 = .ok (.iload_n 3, 1) := by decide +kernel
theorem dX4_laterThan_18 : decode cX4_laterThan 18 = .ok (.iaload, 1) := by decide +kernel
theorem dX4_laterThan_19 : decode cX4_laterThan 19 = .ok (.iload_n 1, 1) := by decide +kernel
theorem dX4_laterThan_20 : decode cX4_laterThan 20 = .ok (.invokestatic 40, 3) := by decide +kernel
theorem dX4_laterThan_23 : decode cX4_laterThan 23 = .ok (.ifCond .eq 7, 3) := by decide +kernel
theorem dX4_laterThan_26 : decode cX4_laterThan 26 = .ok (.iconst 1, 1) := by decide +kernel
theorem dX4_laterThan_27 : decode cX4_laterThan 27 = .ok (.goto 4, 3) := by decide +kernel
theorem dX4_laterThan_30 : decode cX4_laterThan 30 = .ok (.iconst 0, 1) := by decide +kernel
theorem dX4_laterThan_31 : decode cX4_laterThan 31 = .ok (.iadd, 1) := by decide +kernel
theorem dX4_laterThan_32 : decode cX4_laterThan 32 = .ok (.istore_n 2, 1) := by decide +kernel
theorem dX4_laterThan_33 : decode cX4_laterThan 33 = .ok (.iinc 3 1, 3) := by decide +kernel
theorem dX4_laterThan_36 : decode cX4_laterThan 36 = .ok (.goto (-32), 3) := by decide +kernel
theorem dX4_laterThan_39 : decode cX4_laterThan 39 = .ok (.iload_n 2, 1) := by decide +kernel
theorem dX4_laterThan_40 : decode cX4_laterThan 40 = .ok (.ireturn, 1) := by decide +kernel
set_option maxRecDepth 20000 in
theorem ggX4_toldOf_X4_from : GoodIn wsX4_toldOf wsX4_from := goodIn_r _ [7, 8, 2, 1, 9, 10, 11, 12, 13, 14, 15, 16, 6, 17, 18, 19, 20, 54, 55, 56, 57, 58, 59, 60] (by decide +kernel) (by decide +kernel)
set_option maxRecDepth 20000 in
theorem gX4_toldOf_X4_from : GoodIn wsX4_toldOf (wsV RX4 76 RX4 yX4_from wsX4_from) := goodIn_app (goodIn_of _ (by decide +kernel)) ggX4_toldOf_X4_from
set_option maxRecDepth 20000 in
theorem ggX4_toldOf_X4_to : GoodIn wsX4_toldOf wsX4_to := goodIn_r _ [24, 8, 2, 1, 25, 26, 27, 12, 28, 14, 15, 16, 6, 17, 9, 18, 19, 20, 54, 55, 56, 57, 58, 59, 60] (by decide +kernel) (by decide +kernel)
set_option maxRecDepth 20000 in
theorem gX4_toldOf_X4_to : GoodIn wsX4_toldOf (wsV RX4 79 RX4 yX4_to wsX4_to) := goodIn_app (goodIn_of _ (by decide +kernel)) ggX4_toldOf_X4_to
set_option maxRecDepth 20000 in
theorem ggX4_toldOf_X4_isDoubtful : GoodIn wsX4_toldOf wsX4_isDoubtful := goodIn_r _ [32, 3, 4, 5, 6, 7, 8, 2, 1, 9, 10, 11, 12, 13, 14, 15, 16, 17, 18, 19, 20, 21, 22, 23, 24, 25, 26, 27, 28, 54, 55, 56, 57, 58, 59, 60] (by decide +kernel) (by decide +kernel)
set_option maxRecDepth 20000 in
theorem gX4_toldOf_X4_isDoubtful : GoodIn wsX4_toldOf (wsV RX4 85 RX4 yX4_isDoubtful wsX4_isDoubtful) := goodIn_app (goodIn_of _ (by decide +kernel)) ggX4_toldOf_X4_isDoubtful
set_option maxRecDepth 20000 in
theorem ggX4_toldOf_X4_phases : GoodIn wsX4_toldOf wsX4_phases := goodIn_r _ [36, 37, 8, 1, 10, 11, 12, 13, 18, 19, 6, 20, 54, 55, 56, 57, 58, 59, 60] (by decide +kernel) (by decide +kernel)
set_option maxRecDepth 20000 in
theorem gX4_toldOf_X4_phases : GoodIn wsX4_toldOf (wsV RX4 88 RX4 yX4_phases wsX4_phases) := goodIn_app (goodIn_of _ (by decide +kernel)) ggX4_toldOf_X4_phases
set_option maxRecDepth 20000 in
theorem ggX4_toldOf_X4_size : GoodIn wsX4_toldOf wsX4_size := goodIn_r _ [40] (by decide +kernel) (by decide +kernel)
set_option maxRecDepth 20000 in
theorem gX4_toldOf_X4_size : GoodIn wsX4_toldOf (va_wsS RX4 61 yX4_size wsX4_size) := goodIn_app (goodIn_of _ (by decide +kernel)) ggX4_toldOf_X4_size
set_option maxRecDepth 20000 in
theorem ggX4_toldOf_X4_laterThan : GoodIn wsX4_toldOf wsX4_laterThan := goodIn_r _ [44, 8, 1, 18, 19, 6, 20, 54, 55, 56, 57, 58, 59, 60] (by decide +kernel) (by decide +kernel)
set_option maxRecDepth 20000 in
theorem gX4_toldOf_X4_laterThan : GoodIn wsX4_toldOf (wsV RX4 92 RX4 yX4_laterThan wsX4_laterThan) := goodIn_app (goodIn_of _ (by decide +kernel)) ggX4_toldOf_X4_laterThan
set_option maxRecDepth 20000 in
theorem ggX4_toldOf_X4_season : GoodIn wsX4_toldOf wsX4_season := goodIn_r _ [48, 37, 49, 50, 51, 6, 52, 8, 2, 53, 18, 19, 20, 54, 55, 56, 57, 58, 59, 60] (by decide +kernel) (by decide +kernel)
set_option maxRecDepth 20000 in
theorem gX4_toldOf_X4_season : GoodIn wsX4_toldOf (wsV RX4 95 RX4 yX4_season wsX4_season) := goodIn_app (goodIn_of _ (by decide +kernel)) ggX4_toldOf_X4_season
set_option maxRecDepth 20000 in
theorem ggX4_toldOf_X4_isDated : GoodIn wsX4_toldOf wsX4_isDated := goodIn_r _ [17, 9, 54, 55, 56, 57, 58, 59, 60] (by decide +kernel) (by decide +kernel)
set_option maxRecDepth 20000 in
theorem gX4_toldOf_X4_isDated : GoodIn wsX4_toldOf (wsV RX4 64 RX4 yX4_isDated wsX4_isDated) := goodIn_app (goodIn_of _ (by decide +kernel)) ggX4_toldOf_X4_isDated
theorem dX4_toldOf_0 : decode cX4_toldOf 0 = .ok (.iload_n 2, 1) := by decide +kernel
theorem dX4_toldOf_1 : decode cX4_toldOf 1 = .ok (.tableswitch 112 0 7 #[47, 53, 59, 73, 80, 90, 96, 106], 47) := by decide +kernel
theorem dX4_toldOf_48 : decode cX4_toldOf 48 = .ok (.aload_n 0, 1) := by decide +kernel
theorem dX4_toldOf_49 : decode cX4_toldOf 49 = .ok (.iload_n 1, 1) := by decide +kernel
theorem dX4_toldOf_50 : decode cX4_toldOf 50 = .ok (.invokevirtual 76, 3) := by decide +kernel
theorem dX4_toldOf_53 : decode cX4_toldOf 53 = .ok (.ireturn, 1) := by decide +kernel
theorem dX4_toldOf_54 : decode cX4_toldOf 54 = .ok (.aload_n 0, 1) := by decide +kernel
theorem dX4_toldOf_55 : decode cX4_toldOf 55 = .ok (.iload_n 1, 1) := by decide +kernel
theorem dX4_toldOf_56 : decode cX4_toldOf 56 = .ok (.invokevirtual 79, 3) := by decide +kernel
theorem dX4_toldOf_59 : decode cX4_toldOf 59 = .ok (.ireturn, 1) := by decide +kernel
theorem dX4_toldOf_60 : decode cX4_toldOf 60 = .ok (.aload_n 0, 1) := by decide +kernel
theorem dX4_toldOf_61 : decode cX4_toldOf 61 = .ok (.iload_n 1, 1) := by decide +kernel
theorem dX4_toldOf_62 : decode cX4_toldOf 62 = .ok (.invokevirtual 85, 3) := by decide +kernel
theorem dX4_toldOf_65 : decode cX4_toldOf 65 = .ok (.ifCond .eq 7, 3) := by decide +kernel
theorem dX4_toldOf_68 : decode cX4_toldOf 68 = .ok (.iconst 1, 1) := by decide +kernel
theorem dX4_toldOf_69 : decode cX4_toldOf 69 = .ok (.goto 4, 3) := by decide +kernel
theorem dX4_toldOf_72 : decode cX4_toldOf 72 = .ok (.iconst 0, 1) := by decide +kernel
theorem dX4_toldOf_73 : decode cX4_toldOf 73 = .ok (.ireturn, 1) := by decide +kernel
theorem dX4_toldOf_74 : decode cX4_toldOf 74 = .ok (.aload_n 0, 1) := by decide +kernel
theorem dX4_toldOf_75 : decode cX4_toldOf 75 = .ok (.invokevirtual 88, 3) := by decide +kernel
theorem dX4_toldOf_78 : decode cX4_toldOf 78 = .ok (.iload_n 1, 1) := by decide +kernel
theorem dX4_toldOf_79 : decode cX4_toldOf 79 = .ok (.iaload, 1) := by decide +kernel
theorem dX4_toldOf_80 : decode cX4_toldOf 80 = .ok (.ireturn, 1) := by decide +kernel
theorem dX4_toldOf_81 : decode cX4_toldOf 81 = .ok (.aload_n 0, 1) := by decide +kernel
theorem dX4_toldOf_82 : decode cX4_toldOf 82 = .ok (.getfield 13, 3) := by decide +kernel
theorem dX4_toldOf_85 : decode cX4_toldOf 85 = .ok (.iload_n 1, 1) := by decide +kernel
theorem dX4_toldOf_86 : decode cX4_toldOf 86 = .ok (.iaload, 1) := by decide +kernel
theorem dX4_toldOf_87 : decode cX4_toldOf 87 = .ok (.invokestatic 61, 3) := by decide +kernel
theorem dX4_toldOf_90 : decode cX4_toldOf 90 = .ok (.ireturn, 1) := by decide +kernel
theorem dX4_toldOf_91 : decode cX4_toldOf 91 = .ok (.aload_n 0, 1) := by decide +kernel
theorem dX4_toldOf_92 : decode cX4_toldOf 92 = .ok (.iload_n 1, 1) := by decide +kernel
theorem dX4_toldOf_93 : decode cX4_toldOf 93 = .ok (.invokevirtual 92, 3) := by decide +kernel
theorem dX4_toldOf_96 : decode cX4_toldOf 96 = .ok (.ireturn, 1) := by decide +kernel
theorem dX4_toldOf_97 : decode cX4_toldOf 97 = .ok (.aload_n 0, 1) := by decide +kernel
theorem dX4_toldOf_98 : decode cX4_toldOf 98 = .ok (.getfield 9, 3) := by decide +kernel
theorem dX4_toldOf_101 : decode cX4_toldOf 101 = .ok (.iload_n 1, 1) := by decide +kernel
theorem dX4_toldOf_102 : decode cX4_toldOf 102 = .ok (.iaload, 1) := by decide +kernel
theorem dX4_toldOf_103 : decode cX4_toldOf 103 = .ok (.invokestatic 61, 3) := by decide +kernel
theorem dX4_toldOf_106 : decode cX4_toldOf 106 = .ok (.ireturn, 1) := by decide +kernel
theorem dX4_toldOf_107 : decode cX4_toldOf 107 = .ok (.aload_n 0, 1) := by decide +kernel
theorem dX4_toldOf_108 : decode cX4_toldOf 108 = .ok (.iload_n 1, 1) := by decide +kernel
theorem dX4_toldOf_109 : decode cX4_toldOf 109 = .ok (.invokevirtual 95, 3) := by decide +kernel
theorem dX4_toldOf_112 : decode cX4_toldOf 112 = .ok (.ireturn, 1) := by decide +kernel
theorem dX4_toldOf_113 : decode cX4_toldOf 113 = .ok (.aload_n 0, 1) := by decide +kernel
theorem dX4_toldOf_114 : decode cX4_toldOf 114 = .ok (.iload_n 1, 1) := by decide +kernel
theorem dX4_toldOf_115 : decode cX4_toldOf 115 = .ok (.invokevirtual 64, 3) := by decide +kernel
theorem dX4_toldOf_118 : decode cX4_toldOf 118 = .ok (.ifCond .eq 7, 3) := by decide +kernel
theorem dX4_toldOf_121 : decode cX4_toldOf 121 = .ok (.iconst 1, 1) := by decide +kernel
theorem dX4_toldOf_122 : decode cX4_toldOf 122 = .ok (.goto 4, 3) := by decide +kernel
theorem dX4_toldOf_125 : decode cX4_toldOf 125 = .ok (.iconst 0, 1) := by decide +kernel
theorem dX4_toldOf_126 : decode cX4_toldOf 126 = .ok (.ireturn, 1) := by decide +kernel
set_option maxRecDepth 20000 in
theorem ggX4_told_X4_isLayer : GoodIn wsX4_told wsX4_isLayer := goodIn_r _ [6, 7, 8, 9, 5, 10, 70, 71, 72, 73, 74, 75, 76] (by decide +kernel) (by decide +kernel)
set_option maxRecDepth 20000 in
theorem gX4_told_X4_isLayer : GoodIn wsX4_told (wsV RX4 44 RX4 yX4_isLayer wsX4_isLayer) := goodIn_app (goodIn_of _ (by decide +kernel)) ggX4_told_X4_isLayer
set_option maxRecDepth 20000 in
theorem ggX4_told_X4_isIn : GoodIn wsX4_told wsX4_isIn := goodIn_r _ [10] (by decide +kernel) (by decide +kernel)
set_option maxRecDepth 20000 in
theorem gX4_told_X4_isIn : GoodIn wsX4_told (va_wsS RX4 32 yX4_isIn wsX4_isIn) := goodIn_app (goodIn_of _ (by decide +kernel)) ggX4_told_X4_isIn
set_option maxRecDepth 20000 in
theorem ggX4_told_X4_toldOf : GoodIn wsX4_told wsX4_toldOf := goodIn_r _ [14, 15, 16, 17, 18, 19, 5, 20, 7, 21, 22, 23, 24, 25, 26, 27, 28, 29, 30, 31, 32, 33, 34, 35, 36, 37, 38, 39, 40, 41, 42, 43, 44, 45, 46, 47, 48, 49, 50, 51, 52, 53, 54, 55, 56, 57, 58, 59, 60, 61, 62, 63, 64, 65, 70, 71, 72, 73, 74, 75, 76] (by decide +kernel) (by decide +kernel)
set_option maxRecDepth 20000 in
theorem gX4_told_X4_toldOf : GoodIn wsX4_told (wsV RX4 98 RX4 yX4_toldOf wsX4_toldOf) := goodIn_app (goodIn_of _ (by decide +kernel)) ggX4_told_X4_toldOf
set_option maxRecDepth 20000 in
theorem ggX4_told_X4_fail : GoodIn wsX4_told wsX4_fail := goodIn_r _ [69, 1, 70, 71, 72, 73, 74, 75, 76] (by decide +kernel) (by decide +kernel)
set_option maxRecDepth 20000 in
theorem gX4_told_X4_fail : GoodIn wsX4_told (wsV RX4 36 RX4 yX4_fail wsX4_fail) := goodIn_app (goodIn_of _ (by decide +kernel)) ggX4_told_X4_fail
theorem dX4_told_0 : decode cX4_told 0 = .ok (.aload_n 0, 1) := by decide +kernel
theorem dX4_told_1 : decode cX4_told 1 = .ok (.iconst 0, 1) := by decide +kernel
theorem dX4_told_2 : decode cX4_told 2 = .ok (.putfield 25, 3) := by decide +kernel
theorem dX4_told_5 : decode cX4_told 5 = .ok (.aload_n 0, 1) := by decide +kernel
theorem dX4_told_6 : decode cX4_told 6 = .ok (.iload_n 1, 1) := by decide +kernel
theorem dX4_told_7 : decode cX4_told 7 = .ok (.invokevirtual 44, 3) := by decide +kernel
theorem dX4_told_10 : decode cX4_told 10 = .ok (.ifCond .eq 22, 3) := by decide +kernel
theorem dX4_told_13 : decode cX4_told 13 = .ok (.iload_n 2, 1) := by decide +kernel
theorem dX4_told_14 : decode cX4_told 14 = .ok (.iconst 0, 1) := by decide +kernel
theorem dX4_told_15 : decode cX4_told 15 = .ok (.bipush 8, 2) := by decide +kernel
theorem dX4_told_17 : decode cX4_told 17 = .ok (.invokestatic 32, 3) := by decide +kernel
theorem dX4_told_20 : decode cX4_told 20 = .ok (.ifCond .eq 12, 3) := by decide +kernel
theorem dX4_told_23 : decode cX4_told 23 = .ok (.aload_n 0, 1) := by decide +kernel
theorem dX4_told_24 : decode cX4_told 24 = .ok (.iload_n 1, 1) := by decide +kernel
theorem dX4_told_25 : decode cX4_told 25 = .ok (.iload_n 2, 1) := by decide +kernel
theorem dX4_told_26 : decode cX4_told 26 = .ok (.invokevirtual 98, 3) := by decide +kernel
theorem dX4_told_29 : decode cX4_told 29 = .ok (.goto 8, 3) := by decide +kernel
theorem dX4_told_32 : decode cX4_told 32 = .ok (.aload_n 0, 1) := by decide +kernel
theorem dX4_told_33 : decode cX4_told 33 = .ok (.iconst 1, 1) := by decide +kernel
theorem dX4_told_34 : decode cX4_told 34 = .ok (.invokevirtual 36, 3) := by decide +kernel
theorem dX4_told_37 : decode cX4_told 37 = .ok (.ireturn, 1) := by decide +kernel
set_option maxRecDepth 20000 in
theorem ggX4_finds_X4_isLayer : GoodIn wsX4_finds wsX4_isLayer := goodIn_r _ [6, 7, 8, 9, 5, 10, 24, 25, 26, 27, 28, 29, 30] (by decide +kernel) (by decide +kernel)
set_option maxRecDepth 20000 in
theorem gX4_finds_X4_isLayer : GoodIn wsX4_finds (wsV RX4 44 RX4 yX4_isLayer wsX4_isLayer) := goodIn_app (goodIn_of _ (by decide +kernel)) ggX4_finds_X4_isLayer
set_option maxRecDepth 20000 in
theorem ggX4_finds_X4_isIn : GoodIn wsX4_finds wsX4_isIn := goodIn_r _ [10] (by decide +kernel) (by decide +kernel)
set_option maxRecDepth 20000 in
theorem gX4_finds_X4_isIn : GoodIn wsX4_finds (va_wsS RX4 32 yX4_isIn wsX4_isIn) := goodIn_app (goodIn_of _ (by decide +kernel)) ggX4_finds_X4_isIn
set_option maxRecDepth 20000 in
theorem ggX4_finds_X4_all : GoodIn wsX4_finds wsX4_all := goodIn_r _ [14, 7, 15, 16, 17, 18, 5, 19, 24, 25, 26, 27, 28, 29, 30] (by decide +kernel) (by decide +kernel)
set_option maxRecDepth 20000 in
theorem gX4_finds_X4_all : GoodIn wsX4_finds (wsV RX4 82 RX4 yX4_all wsX4_all) := goodIn_app (goodIn_of _ (by decide +kernel)) ggX4_finds_X4_all
set_option maxRecDepth 20000 in
theorem ggX4_finds_X4_fail : GoodIn wsX4_finds wsX4_fail := goodIn_r _ [23, 1, 24, 25, 26, 27, 28, 29, 30] (by decide +kernel) (by decide +kernel)
set_option maxRecDepth 20000 in
theorem gX4_finds_X4_fail : GoodIn wsX4_finds (wsV RX4 36 RX4 yX4_fail wsX4_fail) := goodIn_app (goodIn_of _ (by decide +kernel)) ggX4_finds_X4_fail
theorem dX4_finds_0 : decode cX4_finds 0 = .ok (.aload_n 0, 1) := by decide +kernel
theorem dX4_finds_1 : decode cX4_finds 1 = .ok (.iconst 0, 1) := by decide +kernel
theorem dX4_finds_2 : decode cX4_finds 2 = .ok (.putfield 25, 3) := by decide +kernel
theorem dX4_finds_5 : decode cX4_finds 5 = .ok (.aload_n 0, 1) := by decide +kernel
theorem dX4_finds_6 : decode cX4_finds 6 = .ok (.iload_n 1, 1) := by decide +kernel
theorem dX4_finds_7 : decode cX4_finds 7 = .ok (.invokevirtual 44, 3) := by decide +kernel
theorem dX4_finds_10 : decode cX4_finds 10 = .ok (.ifCond .eq 21, 3) := by decide +kernel
theorem dX4_finds_13 : decode cX4_finds 13 = .ok (.iload_n 2, 1) := by decide +kernel
theorem dX4_finds_14 : decode cX4_finds 14 = .ok (.iconst 0, 1) := by decide +kernel
theorem dX4_finds_15 : decode cX4_finds 15 = .ok (.iconst 3, 1) := by decide +kernel
theorem dX4_finds_16 : decode cX4_finds 16 = .ok (.invokestatic 32, 3) := by decide +kernel
theorem dX4_finds_19 : decode cX4_finds 19 = .ok (.ifCond .eq 12, 3) := by decide +kernel
theorem dX4_finds_22 : decode cX4_finds 22 = .ok (.aload_n 0, 1) := by decide +kernel
theorem dX4_finds_23 : decode cX4_finds 23 = .ok (.iload_n 1, 1) := by decide +kernel
theorem dX4_finds_24 : decode cX4_finds 24 = .ok (.iload_n 2, 1) := by decide +kernel
theorem dX4_finds_25 : decode cX4_finds 25 = .ok (.invokevirtual 82, 3) := by decide +kernel
theorem dX4_finds_28 : decode cX4_finds 28 = .ok (.goto 8, 3) := by decide +kernel
theorem dX4_finds_31 : decode cX4_finds 31 = .ok (.aload_n 0, 1) := by decide +kernel
theorem dX4_finds_32 : decode cX4_finds 32 = .ok (.iconst 1, 1) := by decide +kernel
theorem dX4_finds_33 : decode cX4_finds 33 = .ok (.invokevirtual 36, 3) := by decide +kernel
theorem dX4_finds_36 : decode cX4_finds 36 = .ok (.ireturn, 1) := by decide +kernel
set_option maxRecDepth 20000 in
theorem ggX4_orderAt_X4_has : GoodIn wsX4_orderAt wsX4_has := goodIn_r _ [6] (by decide +kernel) (by decide +kernel)
set_option maxRecDepth 20000 in
theorem gX4_orderAt_X4_has : GoodIn wsX4_orderAt (va_wsS RX4 40 yX4_has wsX4_has) := goodIn_app (goodIn_of _ (by decide +kernel)) ggX4_orderAt_X4_has
theorem dX4_orderAt_0 : decode cX4_orderAt 0 = .ok (.iconst 1, 1) := by decide +kernel
theorem dX4_orderAt_1 : decode cX4_orderAt 1 = .ok (.aload_n 0, 1) := by decide +kernel
theorem dX4_orderAt_2 : decode cX4_orderAt 2 = .ok (.getfield 29, 3) := by decide +kernel
theorem dX4_orderAt_5 : decode cX4_orderAt 5 = .ok (.ishl, 1) := by decide +kernel
theorem dX4_orderAt_6 : decode cX4_orderAt 6 = .ok (.iconst 1, 1) := by decide +kernel
theorem dX4_orderAt_7 : decode cX4_orderAt 7 = .ok (.isub, 1) := by decide +kernel
theorem dX4_orderAt_8 : decode cX4_orderAt 8 = .ok (.istore_n 2, 1) := by decide +kernel
theorem dX4_orderAt_9 : decode cX4_orderAt 9 = .ok (.iconst (-1), 1) := by decide +kernel
theorem dX4_orderAt_10 : decode cX4_orderAt 10 = .ok (.istore_n 3, 1) := by decide +kernel
theorem dX4_orderAt_11 : decode cX4_orderAt 11 = .ok (.iconst 0, 1) := by decide +kernel
theorem dX4_orderAt_12 : decode cX4_orderAt 12 = .ok (.istore 4, 2) := by decide +kernel
theorem dX4_orderAt_14 : decode cX4_orderAt 14 = .ok (.iload 4, 2) := by decide +kernel
theorem dX4_orderAt_16 : decode cX4_orderAt 16 = .ok (.iload_n 1, 1) := by decide +kernel
theorem dX4_orderAt_17 : decode cX4_orderAt 17 = .ok (.if_icmp .gt 44, 3) := by decide +kernel
theorem dX4_orderAt_20 : decode cX4_orderAt 20 = .ok (.iconst 0, 1) := by decide +kernel
theorem dX4_orderAt_21 : decode cX4_orderAt 21 = .ok (.istore_n 3, 1) := by decide +kernel
theorem dX4_orderAt_22 : decode cX4_orderAt 22 = .ok (.iload_n 2, 1) := by decide +kernel
theorem dX4_orderAt_23 : decode cX4_orderAt 23 = .ok (.iload_n 3, 1) := by decide +kernel
theorem dX4_orderAt_24 : decode cX4_orderAt 24 = .ok (.invokestatic 40, 3) := by decide +kernel
theorem dX4_orderAt_27 : decode cX4_orderAt 27 = .ok (.ifCond .eq 14, 3) := by decide +kernel
theorem dX4_orderAt_30 : decode cX4_orderAt 30 = .ok (.aload_n 0, 1) := by decide +kernel
theorem dX4_orderAt_31 : decode cX4_orderAt 31 = .ok (.getfield 13, 3) := by decide +kernel
theorem dX4_orderAt_34 : decode cX4_orderAt 34 = .ok (.iload_n 3, 1) := by decide +kernel
theorem dX4_orderAt_35 : decode cX4_orderAt 35 = .ok (.iaload, 1) := by decide +kernel
theorem dX4_orderAt_36 : decode cX4_orderAt 36 = .ok (.iload_n 2, 1) := by decide +kernel
theorem dX4_orderAt_37 : decode cX4_orderAt 37 = .ok (.iand, 1) := by decide +kernel
theorem dX4_orderAt_38 : decode cX4_orderAt 38 = .ok (.ifCond .eq 9, 3) := by decide +kernel
theorem dX4_orderAt_41 : decode cX4_orderAt 41 = .ok (.iinc 3 1, 3) := by decide +kernel
theorem dX4_orderAt_44 : decode cX4_orderAt 44 = .ok (.goto (-22), 3) := by decide +kernel
theorem dX4_orderAt_47 : decode cX4_orderAt 47 = .ok (.iload_n 2, 1) := by decide +kernel
theorem dX4_orderAt_48 : decode cX4_orderAt 48 = .ok (.iconst 1, 1) := by decide +kernel
theorem dX4_orderAt_49 : decode cX4_orderAt 49 = .ok (.iload_n 3, 1) := by decide +kernel
theorem dX4_orderAt_50 : decode cX4_orderAt 50 = .ok (.ishl, 1) := by decide +kernel
theorem dX4_orderAt_51 : decode cX4_orderAt 51 = .ok (.iconst (-1), 1) := by decide +kernel
theorem dX4_orderAt_52 : decode cX4_orderAt 52 = .ok (.ixor, 1) := by decide +kernel
theorem dX4_orderAt_53 : decode cX4_orderAt 53 = .ok (.iand, 1) := by decide +kernel
theorem dX4_orderAt_54 : decode cX4_orderAt 54 = .ok (.istore_n 2, 1) := by decide +kernel
theorem dX4_orderAt_55 : decode cX4_orderAt 55 = .ok (.iinc 4 1, 3) := by decide +kernel
theorem dX4_orderAt_58 : decode cX4_orderAt 58 = .ok (.goto (-44), 3) := by decide +kernel
theorem dX4_orderAt_61 : decode cX4_orderAt 61 = .ok (.iload_n 3, 1) := by decide +kernel
theorem dX4_orderAt_62 : decode cX4_orderAt 62 = .ok (.ireturn, 1) := by decide +kernel
set_option maxRecDepth 20000 in
theorem ggX4_order_X4_isLayer : GoodIn wsX4_order wsX4_isLayer := goodIn_r _ [6, 7, 8, 9, 5, 10, 23, 24, 25, 26, 27, 28, 29] (by decide +kernel) (by decide +kernel)
set_option maxRecDepth 20000 in
theorem gX4_order_X4_isLayer : GoodIn wsX4_order (wsV RX4 44 RX4 yX4_isLayer wsX4_isLayer) := goodIn_app (goodIn_of _ (by decide +kernel)) ggX4_order_X4_isLayer
set_option maxRecDepth 20000 in
theorem ggX4_order_X4_orderAt : GoodIn wsX4_order wsX4_orderAt := goodIn_r _ [14, 7, 15, 16, 17, 5, 18, 23, 24, 25, 26, 27, 28, 29] (by decide +kernel) (by decide +kernel)
set_option maxRecDepth 20000 in
theorem gX4_order_X4_orderAt : GoodIn wsX4_order (wsV RX4 101 RX4 yX4_orderAt wsX4_orderAt) := goodIn_app (goodIn_of _ (by decide +kernel)) ggX4_order_X4_orderAt
set_option maxRecDepth 20000 in
theorem ggX4_order_X4_fail : GoodIn wsX4_order wsX4_fail := goodIn_r _ [22, 1, 23, 24, 25, 26, 27, 28, 29] (by decide +kernel) (by decide +kernel)
set_option maxRecDepth 20000 in
theorem gX4_order_X4_fail : GoodIn wsX4_order (wsV RX4 36 RX4 yX4_fail wsX4_fail) := goodIn_app (goodIn_of _ (by decide +kernel)) ggX4_order_X4_fail
theorem dX4_order_0 : decode cX4_order 0 = .ok (.aload_n 0, 1) := by decide +kernel
theorem dX4_order_1 : decode cX4_order 1 = .ok (.iconst 0, 1) := by decide +kernel
theorem dX4_order_2 : decode cX4_order 2 = .ok (.putfield 25, 3) := by decide +kernel
theorem dX4_order_5 : decode cX4_order 5 = .ok (.aload_n 0, 1) := by decide +kernel
theorem dX4_order_6 : decode cX4_order 6 = .ok (.iload_n 1, 1) := by decide +kernel
theorem dX4_order_7 : decode cX4_order 7 = .ok (.invokevirtual 44, 3) := by decide +kernel
theorem dX4_order_10 : decode cX4_order 10 = .ok (.ifCond .eq 11, 3) := by decide +kernel
theorem dX4_order_13 : decode cX4_order 13 = .ok (.aload_n 0, 1) := by decide +kernel
theorem dX4_order_14 : decode cX4_order 14 = .ok (.iload_n 1, 1) := by decide +kernel
theorem dX4_order_15 : decode cX4_order 15 = .ok (.invokevirtual 101, 3) := by decide +kernel
theorem dX4_order_18 : decode cX4_order 18 = .ok (.goto 8, 3) := by decide +kernel
theorem dX4_order_21 : decode cX4_order 21 = .ok (.aload_n 0, 1) := by decide +kernel
theorem dX4_order_22 : decode cX4_order 22 = .ok (.iconst 1, 1) := by decide +kernel
theorem dX4_order_23 : decode cX4_order 23 = .ok (.invokevirtual 36, 3) := by decide +kernel
theorem dX4_order_26 : decode cX4_order 26 = .ok (.ireturn, 1) := by decide +kernel
set_option maxRecDepth 20000 in
theorem ggX4_within_X4_has : GoodIn wsX4_within wsX4_has := goodIn_r _ [6] (by decide +kernel) (by decide +kernel)
set_option maxRecDepth 20000 in
theorem gX4_within_X4_has : GoodIn wsX4_within (va_wsS RX4 40 yX4_has wsX4_has) := goodIn_app (goodIn_of _ (by decide +kernel)) ggX4_within_X4_has
theorem dX4_within_0 : decode cX4_within 0 = .ok (.iconst 0, 1) := by decide +kernel
theorem dX4_within_1 : decode cX4_within 1 = .ok (.istore_n 3, 1) := by decide +kernel
theorem dX4_within_2 : decode cX4_within 2 = .ok (.iconst 0, 1) := by decide +kernel
theorem dX4_within_3 : decode cX4_within 3 = .ok (.istore 4, 2) := by decide +kernel
theorem dX4_within_5 : decode cX4_within 5 = .ok (.iload 4, 2) := by decide +kernel
theorem dX4_within_7 : decode cX4_within 7 = .ok (.aload_n 0, 1) := by decide +kernel
theorem dX4_within_8 : decode cX4_within 8 = .ok (.getfield 29, 3) := by decide +kernel
theorem dX4_within_11 : decode cX4_within 11 = .ok (.if_icmp .ge 45, 3) := by decide +kernel
theorem dX4_within_14 : decode cX4_within 14 = .ok (.iload_n 3, 1) := by decide +kernel
theorem dX4_within_15 : decode cX4_within 15 = .ok (.aload_n 0, 1) := by decide +kernel
theorem dX4_within_16 : decode cX4_within 16 = .ok (.getfield 13, 3) := by decide +kernel
theorem dX4_within_19 : decode cX4_within 19 = .ok (.iload_n 1, 1) := by decide +kernel
theorem dX4_within_20 : decode cX4_within 20 = .ok (.iaload, 1) := by decide +kernel
theorem dX4_within_21 : decode cX4_within 21 = .ok (.iload 4, 2) := by decide +kernel
theorem dX4_within_23 : decode cX4_within 23 = .ok (.invokestatic 40, 3) := by decide +kernel
theorem dX4_within_26 : decode cX4_within 26 = .ok (.ifCond .eq 21, 3) := by decide +kernel
theorem dX4_within_29 : decode cX4_within 29 = .ok (.aload_n 0, 1) := by decide +kernel
theorem dX4_within_30 : decode cX4_within 30 = .ok (.getfield 13, 3) := by decide +kernel
theorem dX4_within_33 : decode cX4_within 33 = .ok (.iload 4, 2) := by decide +kernel
theorem dX4_within_35 : decode cX4_within 35 = .ok (.iaload, 1) := by decide +kernel
theorem dX4_within_36 : decode cX4_within 36 = .ok (.iload_n 2, 1) := by decide +kernel
theorem dX4_within_37 : decode cX4_within 37 = .ok (.invokestatic 40, 3) := by decide +kernel
theorem dX4_within_40 : decode cX4_within 40 = .ok (.ifCond .eq 7, 3) := by decide +kernel
theorem dX4_within_43 : decode cX4_within 43 = .ok (.iconst 1, 1) := by decide +kernel
theorem dX4_within_44 : decode cX4_within 44 = .ok (.goto 4, 3) := by decide +kernel
theorem dX4_within_47 : decode cX4_within 47 = .ok (.iconst 0, 1) := by decide +kernel
theorem dX4_within_48 : decode cX4_within 48 = .ok (.iadd, 1) := by decide +kernel
theorem dX4_within_49 : decode cX4_within 49 = .ok (.istore_n 3, 1) := by decide +kernel
theorem dX4_within_50 : decode cX4_within 50 = .ok (.iinc 4 1, 3) := by decide +kernel
theorem dX4_within_53 : decode cX4_within 53 = .ok (.goto (-48), 3) := by decide +kernel
theorem dX4_within_56 : decode cX4_within 56 = .ok (.iload_n 3, 1) := by decide +kernel
theorem dX4_within_57 : decode cX4_within 57 = .ok (.ireturn, 1) := by decide +kernel
set_option maxRecDepth 20000 in
theorem ggX4_between_X4_isLayer : GoodIn wsX4_between wsX4_isLayer := goodIn_r _ [7, 8, 9, 10, 6, 11, 23, 24, 25, 26, 27, 28, 29] (by decide +kernel) (by decide +kernel)
set_option maxRecDepth 20000 in
theorem gX4_between_X4_isLayer : GoodIn wsX4_between (wsV RX4 44 RX4 yX4_isLayer wsX4_isLayer) := goodIn_app (goodIn_of _ (by decide +kernel)) ggX4_between_X4_isLayer
set_option maxRecDepth 20000 in
theorem ggX4_between_X4_fail : GoodIn wsX4_between wsX4_fail := goodIn_r _ [15, 1, 23, 24, 25, 26, 27, 28, 29] (by decide +kernel) (by decide +kernel)
set_option maxRecDepth 20000 in
theorem gX4_between_X4_fail : GoodIn wsX4_between (wsV RX4 36 RX4 yX4_fail wsX4_fail) := goodIn_app (goodIn_of _ (by decide +kernel)) ggX4_between_X4_fail
set_option maxRecDepth 20000 in
theorem ggX4_between_X4_has : GoodIn wsX4_between wsX4_has := goodIn_r _ [18] (by decide +kernel) (by decide +kernel)
set_option maxRecDepth 20000 in
theorem gX4_between_X4_has : GoodIn wsX4_between (va_wsS RX4 40 yX4_has wsX4_has) := goodIn_app (goodIn_of _ (by decide +kernel)) ggX4_between_X4_has
set_option maxRecDepth 20000 in
theorem ggX4_between_X4_within : GoodIn wsX4_between wsX4_within := goodIn_r _ [22, 8, 2, 16, 17, 6, 18, 23, 24, 25, 26, 27, 28, 29] (by decide +kernel) (by decide +kernel)
set_option maxRecDepth 20000 in
theorem gX4_between_X4_within : GoodIn wsX4_between (wsV RX4 104 RX4 yX4_within wsX4_within) := goodIn_app (goodIn_of _ (by decide +kernel)) ggX4_between_X4_within
theorem dX4_between_0 : decode cX4_between 0 = .ok (.aload_n 0, 1) := by decide +kernel
theorem dX4_between_1 : decode cX4_between 1 = .ok (.iconst 0, 1) := by decide +kernel
theorem dX4_between_2 : decode cX4_between 2 = .ok (.putfield 25, 3) := by decide +kernel
theorem dX4_between_5 : decode cX4_between 5 = .ok (.aload_n 0, 1) := by decide +kernel
theorem dX4_between_6 : decode cX4_between 6 = .ok (.iload_n 1, 1) := by decide +kernel
theorem dX4_between_7 : decode cX4_between 7 = .ok (.invokevirtual 44, 3) := by decide +kernel
theorem dX4_between_10 : decode cX4_between 10 = .ok (.ifCond .eq 11, 3) := by decide +kernel
theorem dX4_between_13 : decode cX4_between 13 = .ok (.aload_n 0, 1) := by decide +kernel
theorem dX4_between_14 : decode cX4_between 14 = .ok (.iload_n 2, 1) := by decide +kernel
theorem dX4_between_15 : decode cX4_between 15 = .ok (.invokevirtual 44, 3) := by decide +kernel
theorem dX4_between_18 : decode cX4_between 18 = .ok (.ifCond .ne 9, 3) := by decide +kernel
theorem dX4_between_21 : decode cX4_between 21 = .ok (.aload_n 0, 1) := by decide +kernel
theorem dX4_between_22 : decode cX4_between 22 = .ok (.iconst 1, 1) := by decide +kernel
theorem dX4_between_23 : decode cX4_between 23 = .ok (.invokevirtual 36, 3) := by decide +kernel
theorem dX4_between_26 : decode cX4_between 26 = .ok (.ireturn, 1) := by decide +kernel
theorem dX4_between_27 : decode cX4_between 27 = .ok (.aload_n 0, 1) := by decide +kernel
theorem dX4_between_28 : decode cX4_between 28 = .ok (.getfield 13, 3) := by decide +kernel
theorem dX4_between_31 : decode cX4_between 31 = .ok (.iload_n 1, 1) := by decide +kernel
theorem dX4_between_32 : decode cX4_between 32 = .ok (.iaload, 1) := by decide +kernel
theorem dX4_between_33 : decode cX4_between 33 = .ok (.iload_n 2, 1) := by decide +kernel
theorem dX4_between_34 : decode cX4_between 34 = .ok (.invokestatic 40, 3) := by decide +kernel
theorem dX4_between_37 : decode cX4_between 37 = .ok (.ifCond .eq 12, 3) := by decide +kernel
theorem dX4_between_40 : decode cX4_between 40 = .ok (.aload_n 0, 1) := by decide +kernel
theorem dX4_between_41 : decode cX4_between 41 = .ok (.iload_n 1, 1) := by decide +kernel
theorem dX4_between_42 : decode cX4_between 42 = .ok (.iload_n 2, 1) := by decide +kernel
theorem dX4_between_43 : decode cX4_between 43 = .ok (.invokevirtual 104, 3) := by decide +kernel
theorem dX4_between_46 : decode cX4_between 46 = .ok (.goto 26, 3) := by decide +kernel
theorem dX4_between_49 : decode cX4_between 49 = .ok (.aload_n 0, 1) := by decide +kernel
theorem dX4_between_50 : decode cX4_between 50 = .ok (.getfield 13, 3) := by decide +kernel
theorem dX4_between_53 : decode cX4_between 53 = .ok (.iload_n 2, 1) := by decide +kernel
theorem dX4_between_54 : decode cX4_between 54 = .ok (.iaload, 1) := by decide +kernel
theorem dX4_between_55 : decode cX4_between 55 = .ok (.iload_n 1, 1) := by decide +kernel
theorem dX4_between_56 : decode cX4_between 56 = .ok (.invokestatic 40, 3) := by decide +kernel
theorem dX4_between_59 : decode cX4_between 59 = .ok (.ifCond .eq 12, 3) := by decide +kernel
theorem dX4_between_62 : decode cX4_between 62 = .ok (.aload_n 0, 1) := by decide +kernel
theorem dX4_between_63 : decode cX4_between 63 = .ok (.iload_n 2, 1) := by decide +kernel
theorem dX4_between_64 : decode cX4_between 64 = .ok (.iload_n 1, 1) := by decide +kernel
theorem dX4_between_65 : decode cX4_between 65 = .ok (.invokevirtual 104, 3) := by decide +kernel
theorem dX4_between_68 : decode cX4_between 68 = .ok (.goto 4, 3) := by decide +kernel
theorem dX4_between_71 : decode cX4_between 71 = .ok (.iconst (-1), 1) := by decide +kernel
theorem dX4_between_72 : decode cX4_between 72 = .ok (.ireturn, 1) := by decide +kernel
set_option maxRecDepth 20000 in
theorem ggX4_doubtful_X4_isDoubtful : GoodIn wsX4_doubtful wsX4_isDoubtful := goodIn_r _ [6, 7, 8, 9, 5, 10, 1, 11, 12, 13, 14, 15, 16, 17, 18, 19, 20, 21, 22, 23, 24, 25, 26, 27, 28, 29, 30, 31, 32, 33, 34, 35, 36, 37, 38, 39] (by decide +kernel) (by decide +kernel)
set_option maxRecDepth 20000 in
theorem gX4_doubtful_X4_isDoubtful : GoodIn wsX4_doubtful (wsV RX4 85 RX4 yX4_isDoubtful wsX4_isDoubtful) := goodIn_app (goodIn_of _ (by decide +kernel)) ggX4_doubtful_X4_isDoubtful
theorem dX4_doubtful_0 : decode cX4_doubtful 0 = .ok (.iconst 0, 1) := by decide +kernel
theorem dX4_doubtful_1 : decode cX4_doubtful 1 = .ok (.istore_n 1, 1) := by decide +kernel
theorem dX4_doubtful_2 : decode cX4_doubtful 2 = .ok (.iconst 0, 1) := by decide +kernel
theorem dX4_doubtful_3 : decode cX4_doubtful 3 = .ok (.istore_n 2, 1) := by decide +kernel
theorem dX4_doubtful_4 : decode cX4_doubtful 4 = .ok (.iload_n 2, 1) := by decide +kernel
theorem dX4_doubtful_5 : decode cX4_doubtful 5 = .ok (.aload_n 0, 1) := by decide +kernel
theorem dX4_doubtful_6 : decode cX4_doubtful 6 = .ok (.getfield 29, 3) := by decide +kernel
theorem dX4_doubtful_9 : decode cX4_doubtful 9 = .ok (.if_icmp .ge 25, 3) := by decide +kernel
theorem dX4_doubtful_12 : decode cX4_doubtful 12 = .ok (.iload_n 1, 1) := by decide +kernel
theorem dX4_doubtful_13 : decode cX4_doubtful 13 = .ok (.aload_n 0, 1) := by decide +kernel
theorem dX4_doubtful_14 : decode cX4_doubtful 14 = .ok (.iload_n 2, 1) := by decide +kernel
theorem dX4_doubtful_15 : decode cX4_doubtful 15 = .ok (.invokevirtual 85, 3) := by decide +kernel
theorem dX4_doubtful_18 : decode cX4_doubtful 18 = .ok (.ifCond .eq 7, 3) := by decide +kernel
theorem dX4_doubtful_21 : decode cX4_doubtful 21 = .ok (.iconst 1, 1) := by decide +kernel
theorem dX4_doubtful_22 : decode cX4_doubtful 22 = .ok (.goto 4, 3) := by decide +kernel
theorem dX4_doubtful_25 : decode cX4_doubtful 25 = .ok (.iconst 0, 1) := by decide +kernel
theorem dX4_doubtful_26 : decode cX4_doubtful 26 = .ok (.iadd, 1) := by decide +kernel
theorem dX4_doubtful_27 : decode cX4_doubtful 27 = .ok (.istore_n 1, 1) := by decide +kernel
theorem dX4_doubtful_28 : decode cX4_doubtful 28 = .ok (.iinc 2 1, 3) := by decide +kernel
theorem dX4_doubtful_31 : decode cX4_doubtful 31 = .ok (.goto (-27), 3) := by decide +kernel
theorem dX4_doubtful_34 : decode cX4_doubtful 34 = .ok (.iload_n 1, 1) := by decide +kernel
theorem dX4_doubtful_35 : decode cX4_doubtful 35 = .ok (.ireturn, 1) := by decide +kernel
set_option maxRecDepth 20000 in
theorem ggX4_pairs_X4_size : GoodIn wsX4_pairs wsX4_size := goodIn_r _ [6] (by decide +kernel) (by decide +kernel)
set_option maxRecDepth 20000 in
theorem gX4_pairs_X4_size : GoodIn wsX4_pairs (va_wsS RX4 61 yX4_size wsX4_size) := goodIn_app (goodIn_of _ (by decide +kernel)) ggX4_pairs_X4_size
theorem dX4_pairs_0 : decode cX4_pairs 0 = .ok (.iconst 0, 1) := by decide +kernel
theorem dX4_pairs_1 : decode cX4_pairs 1 = .ok (.istore_n 1, 1) := by decide +kernel
theorem dX4_pairs_2 : decode cX4_pairs 2 = .ok (.iconst 0, 1) := by decide +kernel
theorem dX4_pairs_3 : decode cX4_pairs 3 = .ok (.istore_n 2, 1) := by decide +kernel
theorem dX4_pairs_4 : decode cX4_pairs 4 = .ok (.iload_n 2, 1) := by decide +kernel
theorem dX4_pairs_5 : decode cX4_pairs 5 = .ok (.aload_n 0, 1) := by decide +kernel
theorem dX4_pairs_6 : decode cX4_pairs 6 = .ok (.getfield 29, 3) := by decide +kernel
theorem dX4_pairs_9 : decode cX4_pairs 9 = .ok (.if_icmp .ge 21, 3) := by decide +kernel
theorem dX4_pairs_12 : decode cX4_pairs 12 = .ok (.iload_n 1, 1) := by decide +kernel
theorem dX4_pairs_13 : decode cX4_pairs 13 = .ok (.aload_n 0, 1) := by decide +kernel
theorem dX4_pairs_14 : decode cX4_pairs 14 = .ok (.getfield 13, 3) := by decide +kernel
theorem dX4_pairs_17 : decode cX4_pairs 17 = .ok (.iload_n 2, 1) := by decide +kernel
theorem dX4_pairs_18 : decode cX4_pairs 18 = .ok (.iaload, 1) := by decide +kernel
theorem dX4_pairs_19 : decode cX4_pairs 19 = .ok (.invokestatic 61, 3) := by decide +kernel
theorem dX4_pairs_22 : decode cX4_pairs 22 = .ok (.iadd, 1) := by decide +kernel
theorem dX4_pairs_23 : decode cX4_pairs 23 = .ok (.istore_n 1, 1) := by decide +kernel
theorem dX4_pairs_24 : decode cX4_pairs 24 = .ok (.iinc 2 1, 3) := by decide +kernel
theorem dX4_pairs_27 : decode cX4_pairs 27 = .ok (.goto (-23), 3) := by decide +kernel
theorem dX4_pairs_30 : decode cX4_pairs 30 = .ok (.iload_n 1, 1) := by decide +kernel
theorem dX4_pairs_31 : decode cX4_pairs 31 = .ok (.ireturn, 1) := by decide +kernel
set_option maxRecDepth 20000 in
theorem ggX4_counted_X4_phases : GoodIn wsX4_counted wsX4_phases := goodIn_r _ [12, 13, 1, 14, 2, 3, 4, 5, 15, 16, 11, 17, 50, 51, 52, 53, 54, 55, 56] (by decide +kernel) (by decide +kernel)
set_option maxRecDepth 20000 in
theorem gX4_counted_X4_phases : GoodIn wsX4_counted (wsV RX4 88 RX4 yX4_phases wsX4_phases) := goodIn_app (goodIn_of _ (by decide +kernel)) ggX4_counted_X4_phases
set_option maxRecDepth 20000 in
theorem ggX4_counted_X4_doubtful : GoodIn wsX4_counted wsX4_doubtful := goodIn_r _ [21, 1, 22, 23, 24, 11, 25, 26, 27, 28, 29, 6, 14, 30, 2, 3, 4, 5, 31, 32, 33, 34, 15, 16, 17, 35, 36, 37, 38, 39, 40, 41, 42, 50, 51, 52, 53, 54, 55, 56] (by decide +kernel) (by decide +kernel)
set_option maxRecDepth 20000 in
theorem gX4_counted_X4_doubtful : GoodIn wsX4_counted (wsV RX4 107 RX4 yX4_doubtful wsX4_doubtful) := goodIn_app (goodIn_of _ (by decide +kernel)) ggX4_counted_X4_doubtful
set_option maxRecDepth 20000 in
theorem ggX4_counted_X4_isDated : GoodIn wsX4_counted wsX4_isDated := goodIn_r _ [34, 30, 50, 51, 52, 53, 54, 55, 56] (by decide +kernel) (by decide +kernel)
set_option maxRecDepth 20000 in
theorem gX4_counted_X4_isDated : GoodIn wsX4_counted (wsV RX4 64 RX4 yX4_isDated wsX4_isDated) := goodIn_app (goodIn_of _ (by decide +kernel)) ggX4_counted_X4_isDated
set_option maxRecDepth 20000 in
theorem ggX4_counted_X4_pairs : GoodIn wsX4_counted wsX4_pairs := goodIn_r _ [46, 1, 14, 47, 48, 11, 49, 50, 51, 52, 53, 54, 55, 56] (by decide +kernel) (by decide +kernel)
set_option maxRecDepth 20000 in
theorem gX4_counted_X4_pairs : GoodIn wsX4_counted (wsV RX4 111 RX4 yX4_pairs wsX4_pairs) := goodIn_app (goodIn_of _ (by decide +kernel)) ggX4_counted_X4_pairs
theorem dX4_counted_0 : decode cX4_counted 0 = .ok (.iconst 0, 1) := by decide +kernel
theorem dX4_counted_1 : decode cX4_counted 1 = .ok (.istore_n 2, 1) := by decide +kernel
theorem dX4_counted_2 : decode cX4_counted 2 = .ok (.iload_n 1, 1) := by decide +kernel
theorem dX4_counted_3 : decode cX4_counted 3 = .ok (.tableswitch 180 0 5 #[37, 42, 95, 100, 134, 139], 37) := by decide +kernel
theorem dX4_counted_40 : decode cX4_counted 40 = .ok (.aload_n 0, 1) := by decide +kernel
theorem dX4_counted_41 : decode cX4_counted 41 = .ok (.getfield 29, 3) := by decide +kernel
theorem dX4_counted_44 : decode cX4_counted 44 = .ok (.ireturn, 1) := by decide +kernel
theorem dX4_counted_45 : decode cX4_counted 45 = .ok (.aload_n 0, 1) := by decide +kernel
theorem dX4_counted_46 : decode cX4_counted 46 = .ok (.invokevirtual 88, 3) := by decide +kernel
theorem dX4_counted_49 : decode cX4_counted 49 = .ok (.astore_n 3, 1) := by decide +kernel
theorem dX4_counted_50 : decode cX4_counted 50 = .ok (.aload_n 3, 1) := by decide +kernel
theorem dX4_counted_51 : decode cX4_counted 51 = .ok (.arraylength, 1) := by decide +kernel
theorem dX4_counted_52 : decode cX4_counted 52 = .ok (.istore 4, 2) := by decide +kernel
theorem dX4_counted_54 : decode cX4_counted 54 = .ok (.iconst 0, 1) := by decide +kernel
theorem dX4_counted_55 : decode cX4_counted 55 = .ok (.istore 5, 2) := by decide +kernel
theorem dX4_counted_57 : decode cX4_counted 57 = .ok (.iload 5, 2) := by decide +kernel
theorem dX4_counted_59 : decode cX4_counted 59 = .ok (.iload 4, 2) := by decide +kernel
theorem dX4_counted_61 : decode cX4_counted 61 = .ok (.if_icmp .ge 24, 3) := by decide +kernel
theorem dX4_counted_64 : decode cX4_counted 64 = .ok (.aload_n 3, 1) := by decide +kernel
theorem dX4_counted_65 : decode cX4_counted 65 = .ok (.iload 5, 2) := by decide +kernel
theorem dX4_counted_67 : decode cX4_counted 67 = .ok (.iaload, 1) := by decide +kernel
theorem dX4_counted_68 : decode cX4_counted 68 = .ok (.istore 6, 2) := by decide +kernel
theorem dX4_counted_70 : decode cX4_counted 70 = .ok (.iload_n 2, 1) := by decide +kernel
theorem dX4_counted_71 : decode cX4_counted 71 = .ok (.iload 6, 2) := by decide +kernel
theorem dX4_counted_73 : decode cX4_counted 73 = .ok (.iconst 1, 1) := by decide +kernel
theorem dX4_counted_74 : decode cX4_counted 74 = .ok (.iadd, 1) := by decide +kernel
theorem dX4_counted_75 : decode cX4_counted 75 = .ok (.invokestatic 67, 3) := by decide +kernel
theorem dX4_counted_78 : decode cX4_counted 78 = .ok (.istore_n 2, 1) := by decide +kernel
theorem dX4_counted_79 : decode cX4_counted 79 = .ok (.iinc 5 1, 3) := by decide +kernel
theorem dX4_counted_82 : decode cX4_counted 82 = .ok (.goto (-25), 3) := by decide +kernel
theorem dX4_counted_85 : decode cX4_counted 85 = .ok (.aload_n 0, 1) := by decide +kernel
theorem dX4_counted_86 : decode cX4_counted 86 = .ok (.getfield 29, 3) := by decide +kernel
theorem dX4_counted_89 : decode cX4_counted 89 = .ok (.ifCond .ne 7, 3) := by decide +kernel
theorem dX4_counted_92 : decode cX4_counted 92 = .ok (.iconst 0, 1) := by decide +kernel
theorem dX4_counted_93 : decode cX4_counted 93 = .ok (.goto 4, 3) := by decide +kernel
theorem dX4_counted_96 : decode cX4_counted 96 = .ok (.iload_n 2, 1) := by decide +kernel
theorem dX4_counted_97 : decode cX4_counted 97 = .ok (.ireturn, 1) := by decide +kernel
theorem dX4_counted_98 : decode cX4_counted 98 = .ok (.aload_n 0, 1) := by decide +kernel
theorem dX4_counted_99 : decode cX4_counted 99 = .ok (.invokevirtual 107, 3) := by decide +kernel
theorem dX4_counted_102 : decode cX4_counted 102 = .ok (.ireturn, 1) := by decide +kernel
theorem dX4_counted_103 : decode cX4_counted 103 = .ok (.iconst 0, 1) := by decide +kernel
theorem dX4_counted_104 : decode cX4_counted 104 = .ok (.istore_n 3, 1) := by decide +kernel
theorem dX4_counted_105 : decode cX4_counted 105 = .ok (.iload_n 3, 1) := by decide +kernel
theorem dX4_counted_106 : decode cX4_counted 106 = .ok (.aload_n 0, 1) := by decide +kernel
theorem dX4_counted_107 : decode cX4_counted 107 = .ok (.getfield 29, 3) := by decide +kernel
theorem dX4_counted_110 : decode cX4_counted 110 = .ok (.if_icmp .ge 25, 3) := by decide +kernel
theorem dX4_counted_113 : decode cX4_counted 113 = .ok (.iload_n 2, 1) := by decide +kernel
theorem dX4_counted_114 : decode cX4_counted 114 = .ok (.aload_n 0, 1) := by decide +kernel
theorem dX4_counted_115 : decode cX4_counted 115 = .ok (.iload_n 3, 1) := by decide +kernel
theorem dX4_counted_116 : decode cX4_counted 116 = .ok (.invokevirtual 64, 3) := by decide +kernel
theorem dX4_counted_119 : decode cX4_counted 119 = .ok (.ifCond .eq 7, 3) := by decide +kernel
theorem dX4_counted_122 : decode cX4_counted 122 = .ok (.iconst 1, 1) := by decide +kernel
theorem dX4_counted_123 : decode cX4_counted 123 = .ok (.goto 4, 3) := by decide +kernel
theorem dX4_counted_126 : decode cX4_counted 126 = .ok (.iconst 0, 1) := by decide +kernel
theorem dX4_counted_127 : decode cX4_counted 127 = .ok (.iadd, 1) := by decide +kernel
theorem dX4_counted_128 : decode cX4_counted 128 = .ok (.istore_n 2, 1) := by decide +kernel
theorem dX4_counted_129 : decode cX4_counted 129 = .ok (.iinc 3 1, 3) := by decide +kernel
theorem dX4_counted_132 : decode cX4_counted 132 = .ok (.goto (-27), 3) := by decide +kernel
theorem dX4_counted_135 : decode cX4_counted 135 = .ok (.iload_n 2, 1) := by decide +kernel
theorem dX4_counted_136 : decode cX4_counted 136 = .ok (.ireturn, 1) := by decide +kernel
theorem dX4_counted_137 : decode cX4_counted 137 = .ok (.aload_n 0, 1) := by decide +kernel
theorem dX4_counted_138 : decode cX4_counted 138 = .ok (.invokevirtual 111, 3) := by decide +kernel
theorem dX4_counted_141 : decode cX4_counted 141 = .ok (.ireturn, 1) := by decide +kernel
theorem dX4_counted_142 : decode cX4_counted 142 = .ok (.iconst 0, 1) := by decide +kernel
theorem dX4_counted_143 : decode cX4_counted 143 = .ok (.istore_n 3, 1) := by decide +kernel
theorem dX4_counted_144 : decode cX4_counted 144 = .ok (.iload_n 3, 1) := by decide +kernel
theorem dX4_counted_145 : decode cX4_counted 145 = .ok (.aload_n 0, 1) := by decide +kernel
theorem dX4_counted_146 : decode cX4_counted 146 = .ok (.getfield 29, 3) := by decide +kernel
theorem dX4_counted_149 : decode cX4_counted 149 = .ok (.if_icmp .ge 32, 3) := by decide +kernel
theorem dX4_counted_152 : decode cX4_counted 152 = .ok (.iload_n 2, 1) := by decide +kernel
theorem dX4_counted_153 : decode cX4_counted 153 = .ok (.aload_n 0, 1) := by decide +kernel
theorem dX4_counted_154 : decode cX4_counted 154 = .ok (.getfield 9, 3) := by decide +kernel
theorem dX4_counted_157 : decode cX4_counted 157 = .ok (.iload_n 3, 1) := by decide +kernel
theorem dX4_counted_158 : decode cX4_counted 158 = .ok (.iaload, 1) := by decide +kernel
theorem dX4_counted_159 : decode cX4_counted 159 = .ok (.iconst 1, 1) := by decide +kernel
theorem dX4_counted_160 : decode cX4_counted 160 = .ok (.iload_n 3, 1) := by decide +kernel
theorem dX4_counted_161 : decode cX4_counted 161 = .ok (.ishl, 1) := by decide +kernel
theorem dX4_counted_162 : decode cX4_counted 162 = .ok (.iconst 1, 1) := by decide +kernel
theorem dX4_counted_163 : decode cX4_counted 163 = .ok (.isub, 1) := by decide +kernel
theorem dX4_counted_164 : decode cX4_counted 164 = .ok (.iand, 1) := by decide +kernel
theorem dX4_counted_165 : decode cX4_counted 165 = .ok (.ifCond .ne 7, 3) := by decide +kernel
theorem dX4_counted_168 : decode cX4_counted 168 = .ok (.iconst 1, 1) := by decide +kernel
theorem dX4_counted_169 : decode cX4_counted 169 = .ok (.goto 4, 3) := by decide +kernel
theorem dX4_counted_172 : decode cX4_counted 172 = .ok (.iconst 0, 1) := by decide +kernel
theorem dX4_counted_173 : decode cX4_counted 173 = .ok (.iadd, 1) := by decide +kernel
theorem dX4_counted_174 : decode cX4_counted 174 = .ok (.istore_n 2, 1) := by decide +kernel
theorem dX4_counted_175 : decode cX4_counted 175 = .ok (.iinc 3 1, 3) := by decide +kernel
theorem dX4_counted_178 : decode cX4_counted 178 = .ok (.goto (-34), 3) := by decide +kernel
theorem dX4_counted_181 : decode cX4_counted 181 = .ok (.iload_n 2, 1) := by decide +kernel
theorem dX4_counted_182 : decode cX4_counted 182 = .ok (.ireturn, 1) := by decide +kernel
theorem dX4_counted_183 : decode cX4_counted 183 = .ok (.iconst 0, 1) := by decide +kernel
theorem dX4_counted_184 : decode cX4_counted 184 = .ok (.istore_n 3, 1) := by decide +kernel
theorem dX4_counted_185 : decode cX4_counted 185 = .ok (.iload_n 3, 1) := by decide +kernel
theorem dX4_counted_186 : decode cX4_counted 186 = .ok (.iconst 4, 1) := by decide +kernel
theorem dX4_counted_187 : decode cX4_counted 187 = .ok (.aload_n 0, 1) := by decide +kernel
theorem dX4_counted_188 : decode cX4_counted 188 = .ok (.getfield 29, 3) := by decide +kernel
theorem dX4_counted_191 : decode cX4_counted 191 = .ok (.imul, 1) := by decide +kernel
theorem dX4_counted_192 : decode cX4_counted 192 = .ok (.if_icmp .ge 18, 3) := by decide +kernel
theorem dX4_counted_195 : decode cX4_counted 195 = .ok (.iload_n 2, 1) := by decide +kernel
theorem dX4_counted_196 : decode cX4_counted 196 = .ok (.aload_n 0, 1) := by decide +kernel
theorem dX4_counted_197 : decode cX4_counted 197 = .ok (.getfield 16, 3) := by decide +kernel
theorem dX4_counted_200 : decode cX4_counted 200 = .ok (.iload_n 3, 1) := by decide +kernel
theorem dX4_counted_201 : decode cX4_counted 201 = .ok (.iaload, 1) := by decide +kernel
theorem dX4_counted_202 : decode cX4_counted 202 = .ok (.iadd, 1) := by decide +kernel
theorem dX4_counted_203 : decode cX4_counted 203 = .ok (.istore_n 2, 1) := by decide +kernel
theorem dX4_counted_204 : decode cX4_counted 204 = .ok (.iinc 3 1, 3) := by decide +kernel
theorem dX4_counted_207 : decode cX4_counted 207 = .ok (.goto (-22), 3) := by decide +kernel
theorem dX4_counted_210 : decode cX4_counted 210 = .ok (.iload_n 2, 1) := by decide +kernel
theorem dX4_counted_211 : decode cX4_counted 211 = .ok (.ireturn, 1) := by decide +kernel
set_option maxRecDepth 20000 in
theorem ggX4_count_X4_isIn : GoodIn wsX4_count wsX4_isIn := goodIn_r _ [5] (by decide +kernel) (by decide +kernel)
set_option maxRecDepth 20000 in
theorem gX4_count_X4_isIn : GoodIn wsX4_count (va_wsS RX4 32 yX4_isIn wsX4_isIn) := goodIn_app (goodIn_of _ (by decide +kernel)) ggX4_count_X4_isIn
set_option maxRecDepth 20000 in
theorem ggX4_count_X4_counted : GoodIn wsX4_count wsX4_counted := goodIn_r _ [9, 10, 11, 12, 13, 14, 15, 16, 17, 18, 19, 4, 20, 21, 22, 23, 24, 25, 26, 27, 28, 29, 30, 31, 32, 33, 34, 35, 36, 37, 38, 39, 40, 41, 42, 43, 44, 45, 46, 47, 48, 49, 50, 51, 52, 53, 54, 55, 56, 57, 62, 63, 64, 65, 66, 67, 68] (by decide +kernel) (by decide +kernel)
set_option maxRecDepth 20000 in
theorem gX4_count_X4_counted : GoodIn wsX4_count (wsV RX4 114 RX4 yX4_counted wsX4_counted) := goodIn_app (goodIn_of _ (by decide +kernel)) ggX4_count_X4_counted
set_option maxRecDepth 20000 in
theorem ggX4_count_X4_fail : GoodIn wsX4_count wsX4_fail := goodIn_r _ [61, 1, 62, 63, 64, 65, 66, 67, 68] (by decide +kernel) (by decide +kernel)
set_option maxRecDepth 20000 in
theorem gX4_count_X4_fail : GoodIn wsX4_count (wsV RX4 36 RX4 yX4_fail wsX4_fail) := goodIn_app (goodIn_of _ (by decide +kernel)) ggX4_count_X4_fail
theorem dX4_count_0 : decode cX4_count 0 = .ok (.aload_n 0, 1) := by decide +kernel
theorem dX4_count_1 : decode cX4_count 1 = .ok (.iconst 0, 1) := by decide +kernel
theorem dX4_count_2 : decode cX4_count 2 = .ok (.putfield 25, 3) := by decide +kernel
theorem dX4_count_5 : decode cX4_count 5 = .ok (.iload_n 1, 1) := by decide +kernel
theorem dX4_count_6 : decode cX4_count 6 = .ok (.iconst 0, 1) := by decide +kernel
theorem dX4_count_7 : decode cX4_count 7 = .ok (.bipush 6, 2) := by decide +kernel
theorem dX4_count_9 : decode cX4_count 9 = .ok (.invokestatic 32, 3) := by decide +kernel
theorem dX4_count_12 : decode cX4_count 12 = .ok (.ifCond .eq 11, 3) := by decide +kernel
theorem dX4_count_15 : decode cX4_count 15 = .ok (.aload_n 0, 1) := by decide +kernel
theorem dX4_count_16 : decode cX4_count 16 = .ok (.iload_n 1, 1) := by decide +kernel
theorem dX4_count_17 : decode cX4_count 17 = .ok (.invokevirtual 114, 3) := by decide +kernel
theorem dX4_count_20 : decode cX4_count 20 = .ok (.goto 8, 3) := by decide +kernel
theorem dX4_count_23 : decode cX4_count 23 = .ok (.aload_n 0, 1) := by decide +kernel
theorem dX4_count_24 : decode cX4_count 24 = .ok (.iconst 1, 1) := by decide +kernel
theorem dX4_count_25 : decode cX4_count 25 = .ok (.invokevirtual 36, 3) := by decide +kernel
theorem dX4_count_28 : decode cX4_count 28 = .ok (.ireturn, 1) := by decide +kernel
set_option maxRecDepth 20000 in
theorem ggX4_blame_X4_doubtful : GoodIn wsX4_blame wsX4_doubtful := goodIn_r _ [8, 2, 9, 10, 11, 7, 12, 13, 14, 15, 16, 17, 18, 3, 19, 20, 21, 22, 23, 24, 25, 26, 27, 28, 29, 30, 31, 32, 33, 34, 35, 36, 37, 38, 39, 40, 41, 42, 43, 44] (by decide +kernel) (by decide +kernel)
set_option maxRecDepth 20000 in
theorem gX4_blame_X4_doubtful : GoodIn wsX4_blame (wsV RX4 107 RX4 yX4_doubtful wsX4_doubtful) := goodIn_app (goodIn_of _ (by decide +kernel)) ggX4_blame_X4_doubtful
set_option maxRecDepth 20000 in
theorem ggX4_blame_X4_isDated : GoodIn wsX4_blame wsX4_isDated := goodIn_r _ [26, 3, 38, 39, 40, 41, 42, 43, 44] (by decide +kernel) (by decide +kernel)
set_option maxRecDepth 20000 in
theorem gX4_blame_X4_isDated : GoodIn wsX4_blame (wsV RX4 64 RX4 yX4_isDated wsX4_isDated) := goodIn_app (goodIn_of _ (by decide +kernel)) ggX4_blame_X4_isDated
theorem dX4_blame_0 : decode cX4_blame 0 = .ok (.aload_n 0, 1) := by decide +kernel
theorem dX4_blame_1 : decode cX4_blame 1 = .ok (.iconst 0, 1) := by decide +kernel
theorem dX4_blame_2 : decode cX4_blame 2 = .ok (.putfield 25, 3) := by decide +kernel
theorem dX4_blame_5 : decode cX4_blame 5 = .ok (.iconst (-1), 1) := by decide +kernel
theorem dX4_blame_6 : decode cX4_blame 6 = .ok (.istore_n 1, 1) := by decide +kernel
theorem dX4_blame_7 : decode cX4_blame 7 = .ok (.aload_n 0, 1) := by decide +kernel
theorem dX4_blame_8 : decode cX4_blame 8 = .ok (.invokevirtual 107, 3) := by decide +kernel
theorem dX4_blame_11 : decode cX4_blame 11 = .ok (.istore_n 2, 1) := by decide +kernel
theorem dX4_blame_12 : decode cX4_blame 12 = .ok (.iconst 0, 1) := by decide +kernel
theorem dX4_blame_13 : decode cX4_blame 13 = .ok (.istore_n 3, 1) := by decide +kernel
theorem dX4_blame_14 : decode cX4_blame 14 = .ok (.iload_n 3, 1) := by decide +kernel
theorem dX4_blame_15 : decode cX4_blame 15 = .ok (.aload_n 0, 1) := by decide +kernel
theorem dX4_blame_16 : decode cX4_blame 16 = .ok (.getfield 29, 3) := by decide +kernel
theorem dX4_blame_19 : decode cX4_blame 19 = .ok (.if_icmp .ge 63, 3) := by decide +kernel
theorem dX4_blame_22 : decode cX4_blame 22 = .ok (.aload_n 0, 1) := by decide +kernel
theorem dX4_blame_23 : decode cX4_blame 23 = .ok (.iload_n 3, 1) := by decide +kernel
theorem dX4_blame_24 : decode cX4_blame 24 = .ok (.invokevirtual 64, 3) := by decide +kernel
theorem dX4_blame_27 : decode cX4_blame 27 = .ok (.ifCond .ne 6, 3) := by decide +kernel
theorem dX4_blame_30 : decode cX4_blame 30 = .ok (.goto 46, 3) := by decide +kernel
theorem dX4_blame_33 : decode cX4_blame 33 = .ok (.aload_n 0, 1) := by decide +kernel
theorem dX4_blame_34 : decode cX4_blame 34 = .ok (.getfield 19, 3) := by decide +kernel
theorem dX4_blame_37 : decode cX4_blame 37 = .ok (.iload_n 3, 1) := by decide +kernel
theorem dX4_blame_38 : decode cX4_blame 38 = .ok (.iaload, 1) := by decide +kernel
theorem dX4_blame_39 : decode cX4_blame 39 = .ok (.istore 4, 2) := by decide +kernel
theorem dX4_blame_41 : decode cX4_blame 41 = .ok (.aload_n 0, 1) := by decide +kernel
theorem dX4_blame_42 : decode cX4_blame 42 = .ok (.getfield 19, 3) := by decide +kernel
theorem dX4_blame_45 : decode cX4_blame 45 = .ok (.iload_n 3, 1) := by decide +kernel
theorem dX4_blame_46 : decode cX4_blame 46 = .ok (.iconst (-1), 1) := by decide +kernel
theorem dX4_blame_47 : decode cX4_blame 47 = .ok (.iastore, 1) := by decide +kernel
theorem dX4_blame_48 : decode cX4_blame 48 = .ok (.aload_n 0, 1) := by decide +kernel
theorem dX4_blame_49 : decode cX4_blame 49 = .ok (.invokevirtual 107, 3) := by decide +kernel
theorem dX4_blame_52 : decode cX4_blame 52 = .ok (.istore 5, 2) := by decide +kernel
theorem dX4_blame_54 : decode cX4_blame 54 = .ok (.aload_n 0, 1) := by decide +kernel
theorem dX4_blame_55 : decode cX4_blame 55 = .ok (.getfield 19, 3) := by decide +kernel
theorem dX4_blame_58 : decode cX4_blame 58 = .ok (.iload_n 3, 1) := by decide +kernel
theorem dX4_blame_59 : decode cX4_blame 59 = .ok (.iload 4, 2) := by decide +kernel
theorem dX4_blame_61 : decode cX4_blame 61 = .ok (.iastore, 1) := by decide +kernel
theorem dX4_blame_62 : decode cX4_blame 62 = .ok (.iload 5, 2) := by decide +kernel
theorem dX4_blame_64 : decode cX4_blame 64 = .ok (.iload_n 2, 1) := by decide +kernel
theorem dX4_blame_65 : decode cX4_blame 65 = .ok (.if_icmp .lt 6, 3) := by decide +kernel
theorem dX4_blame_68 : decode cX4_blame 68 = .ok (.goto 8, 3) := by decide +kernel
theorem dX4_blame_71 : decode cX4_blame 71 = .ok (.iload_n 3, 1) := by decide +kernel
theorem dX4_blame_72 : decode cX4_blame 72 = .ok (.istore_n 1, 1) := by decide +kernel
theorem dX4_blame_73 : decode cX4_blame 73 = .ok (.iload 5, 2) := by decide +kernel
theorem dX4_blame_75 : decode cX4_blame 75 = .ok (.istore_n 2, 1) := by decide +kernel
theorem dX4_blame_76 : decode cX4_blame 76 = .ok (.iinc 3 1, 3) := by decide +kernel
theorem dX4_blame_79 : decode cX4_blame 79 = .ok (.goto (-65), 3) := by decide +kernel
theorem dX4_blame_82 : decode cX4_blame 82 = .ok (.iload_n 1, 1) := by decide +kernel
theorem dX4_blame_83 : decode cX4_blame 83 = .ok (.ireturn, 1) := by decide +kernel
set_option maxRecDepth 20000 in
theorem ggX4_narrows_X4_isLayer : GoodIn wsX4_narrows wsX4_isLayer := goodIn_r _ [10, 3, 11, 12, 9, 13, 46, 47, 48, 49, 50, 51, 52] (by decide +kernel) (by decide +kernel)
set_option maxRecDepth 20000 in
theorem gX4_narrows_X4_isLayer : GoodIn wsX4_narrows (wsV RX4 44 RX4 yX4_isLayer wsX4_isLayer) := goodIn_app (goodIn_of _ (by decide +kernel)) ggX4_narrows_X4_isLayer
set_option maxRecDepth 20000 in
theorem ggX4_narrows_X4_fail : GoodIn wsX4_narrows wsX4_fail := goodIn_r _ [17, 1, 46, 47, 48, 49, 50, 51, 52] (by decide +kernel) (by decide +kernel)
set_option maxRecDepth 20000 in
theorem gX4_narrows_X4_fail : GoodIn wsX4_narrows (wsV RX4 36 RX4 yX4_fail wsX4_fail) := goodIn_app (goodIn_of _ (by decide +kernel)) ggX4_narrows_X4_fail
set_option maxRecDepth 20000 in
theorem ggX4_narrows_X4_isIn : GoodIn wsX4_narrows wsX4_isIn := goodIn_r _ [13] (by decide +kernel) (by decide +kernel)
set_option maxRecDepth 20000 in
theorem gX4_narrows_X4_isIn : GoodIn wsX4_narrows (va_wsS RX4 32 yX4_isIn wsX4_isIn) := goodIn_app (goodIn_of _ (by decide +kernel)) ggX4_narrows_X4_isIn
set_option maxRecDepth 20000 in
theorem ggX4_narrows_X4_to : GoodIn wsX4_narrows wsX4_to := goodIn_r _ [21, 3, 22, 23, 5, 24, 25, 26, 27, 28, 29, 30, 9, 31, 4, 32, 33, 34, 46, 47, 48, 49, 50, 51, 52] (by decide +kernel) (by decide +kernel)
set_option maxRecDepth 20000 in
theorem gX4_narrows_X4_to : GoodIn wsX4_narrows (wsV RX4 79 RX4 yX4_to wsX4_to) := goodIn_app (goodIn_of _ (by decide +kernel)) ggX4_narrows_X4_to
set_option maxRecDepth 20000 in
theorem ggX4_narrows_X4_from : GoodIn wsX4_narrows wsX4_from := goodIn_r _ [38, 3, 22, 23, 4, 39, 40, 26, 41, 28, 29, 30, 9, 31, 32, 33, 34, 46, 47, 48, 49, 50, 51, 52] (by decide +kernel) (by decide +kernel)
set_option maxRecDepth 20000 in
theorem gX4_narrows_X4_from : GoodIn wsX4_narrows (wsV RX4 76 RX4 yX4_from wsX4_from) := goodIn_app (goodIn_of _ (by decide +kernel)) ggX4_narrows_X4_from
set_option maxRecDepth 20000 in
theorem ggX4_narrows_X4_isDoubtful : GoodIn wsX4_narrows wsX4_isDoubtful := goodIn_r _ [45, 35, 36, 37, 9, 38, 3, 22, 23, 4, 39, 40, 26, 41, 28, 29, 30, 31, 32, 33, 34, 18, 19, 20, 21, 5, 24, 25, 27, 46, 47, 48, 49, 50, 51, 52] (by decide +kernel) (by decide +kernel)
set_option maxRecDepth 20000 in
theorem gX4_narrows_X4_isDoubtful : GoodIn wsX4_narrows (wsV RX4 85 RX4 yX4_isDoubtful wsX4_isDoubtful) := goodIn_app (goodIn_of _ (by decide +kernel)) ggX4_narrows_X4_isDoubtful
theorem dX4_narrows_0 : decode cX4_narrows 0 = .ok (.aload_n 0, 1) := by decide +kernel
theorem dX4_narrows_1 : decode cX4_narrows 1 = .ok (.iconst 0, 1) := by decide +kernel
theorem dX4_narrows_2 : decode cX4_narrows 2 = .ok (.putfield 25, 3) := by decide +kernel
theorem dX4_narrows_5 : decode cX4_narrows 5 = .ok (.aload_n 0, 1) := by decide +kernel
theorem dX4_narrows_6 : decode cX4_narrows 6 = .ok (.iload_n 1, 1) := by decide +kernel
theorem dX4_narrows_7 : decode cX4_narrows 7 = .ok (.invokevirtual 44, 3) := by decide +kernel
theorem dX4_narrows_10 : decode cX4_narrows 10 = .ok (.ifCond .ne 9, 3) := by decide +kernel
theorem dX4_narrows_13 : decode cX4_narrows 13 = .ok (.aload_n 0, 1) := by decide +kernel
theorem dX4_narrows_14 : decode cX4_narrows 14 = .ok (.iconst 1, 1) := by decide +kernel
theorem dX4_narrows_15 : decode cX4_narrows 15 = .ok (.invokevirtual 36, 3) := by decide +kernel
theorem dX4_narrows_18 : decode cX4_narrows 18 = .ok (.ireturn, 1) := by decide +kernel
theorem dX4_narrows_19 : decode cX4_narrows 19 = .ok (.iload_n 2, 1) := by decide +kernel
theorem dX4_narrows_20 : decode cX4_narrows 20 = .ok (.iconst 0, 1) := by decide +kernel
theorem dX4_narrows_21 : decode cX4_narrows 21 = .ok (.sipush 9999, 3) := by decide +kernel
theorem dX4_narrows_24 : decode cX4_narrows 24 = .ok (.invokestatic 32, 3) := by decide +kernel
theorem dX4_narrows_27 : decode cX4_narrows 27 = .ok (.ifCond .ne 9, 3) := by decide +kernel
theorem dX4_narrows_30 : decode cX4_narrows 30 = .ok (.aload_n 0, 1) := by decide +kernel
theorem dX4_narrows_31 : decode cX4_narrows 31 = .ok (.iconst 2, 1) := by decide +kernel
theorem dX4_narrows_32 : decode cX4_narrows 32 = .ok (.invokevirtual 36, 3) := by decide +kernel
theorem dX4_narrows_35 : decode cX4_narrows 35 = .ok (.ireturn, 1) := by decide +kernel
theorem dX4_narrows_36 : decode cX4_narrows 36 = .ok (.bipush 14, 2) := by decide +kernel
theorem dX4_narrows_38 : decode cX4_narrows 38 = .ok (.newarray .int, 2) := by decide +kernel
theorem dX4_narrows_40 : decode cX4_narrows 40 = .ok (.astore_n 3, 1) := by decide +kernel
theorem dX4_narrows_41 : decode cX4_narrows 41 = .ok (.iconst 0, 1) := by decide +kernel
theorem dX4_narrows_42 : decode cX4_narrows 42 = .ok (.istore 4, 2) := by decide +kernel
theorem dX4_narrows_44 : decode cX4_narrows 44 = .ok (.iload 4, 2) := by decide +kernel
theorem dX4_narrows_46 : decode cX4_narrows 46 = .ok (.aload_n 0, 1) := by decide +kernel
theorem dX4_narrows_47 : decode cX4_narrows 47 = .ok (.getfield 29, 3) := by decide +kernel
theorem dX4_narrows_50 : decode cX4_narrows 50 = .ok (.if_icmp .ge 26, 3) := by decide +kernel
theorem dX4_narrows_53 : decode cX4_narrows 53 = .ok (.aload_n 3, 1) := by decide +kernel
theorem dX4_narrows_54 : decode cX4_narrows 54 = .ok (.iload 4, 2) := by decide +kernel
theorem dX4_narrows_56 : decode cX4_narrows 56 = .ok (.aload_n 0, 1) := by decide +kernel
theorem dX4_narrows_57 : decode cX4_narrows 57 = .ok (.iload 4, 2) := by decide +kernel
theorem dX4_narrows_59 : decode cX4_narrows 59 = .ok (.invokevirtual 79, 3) := by decide +kernel
theorem dX4_narrows_62 : decode cX4_narrows 62 = .ok (.aload_n 0, 1) := by decide +kernel
theorem dX4_narrows_63 : decode cX4_narrows 63 = .ok (.iload 4, 2) := by decide +kernel
theorem dX4_narrows_65 : decode cX4_narrows 65 = .ok (.invokevirtual 76, 3) := by decide +kernel
theorem dX4_narrows_68 : decode cX4_narrows 68 = .ok (.isub, 1) := by decide +kernel
theorem dX4_narrows_69 : decode cX4_narrows 69 = .ok (.iastore, 1) := by decide +kernel
theorem dX4_narrows_70 : decode cX4_narrows 70 = .ok (.iinc 4 1, 3) := by decide +kernel
theorem dX4_narrows_73 : decode cX4_narrows 73 = .ok (.goto (-29), 3) := by decide +kernel
theorem dX4_narrows_76 : decode cX4_narrows 76 = .ok (.aload_n 0, 1) := by decide +kernel
theorem dX4_narrows_77 : decode cX4_narrows 77 = .ok (.getfield 19, 3) := by decide +kernel
theorem dX4_narrows_80 : decode cX4_narrows 80 = .ok (.iload_n 1, 1) := by decide +kernel
theorem dX4_narrows_81 : decode cX4_narrows 81 = .ok (.iaload, 1) := by decide +kernel
theorem dX4_narrows_82 : decode cX4_narrows 82 = .ok (.istore 4, 2) := by decide +kernel
theorem dX4_narrows_84 : decode cX4_narrows 84 = .ok (.aload_n 0, 1) := by decide +kernel
theorem dX4_narrows_85 : decode cX4_narrows 85 = .ok (.getfield 22, 3) := by decide +kernel
theorem dX4_narrows_88 : decode cX4_narrows 88 = .ok (.iload_n 1, 1) := by decide +kernel
theorem dX4_narrows_89 : decode cX4_narrows 89 = .ok (.iaload, 1) := by decide +kernel
theorem dX4_narrows_90 : decode cX4_narrows 90 = .ok (.istore 5, 2) := by decide +kernel
theorem dX4_narrows_92 : decode cX4_narrows 92 = .ok (.aload_n 0, 1) := by decide +kernel
theorem dX4_narrows_93 : decode cX4_narrows 93 = .ok (.getfield 19, 3) := by decide +kernel
theorem dX4_narrows_96 : decode cX4_narrows 96 = .ok (.iload_n 1, 1) := by decide +kernel
theorem dX4_narrows_97 : decode cX4_narrows 97 = .ok (.iload_n 2, 1) := by decide +kernel
theorem dX4_narrows_98 : decode cX4_narrows 98 = .ok (.iastore, 1) := by decide +kernel
theorem dX4_narrows_99 : decode cX4_narrows 99 = .ok (.aload_n 0, 1) := by decide +kernel
theorem dX4_narrows_100 : decode cX4_narrows 100 = .ok (.getfield 22, 3) := by decide +kernel
theorem dX4_narrows_103 : decode cX4_narrows 103 = .ok (.iload_n 1, 1) := by decide +kernel
theorem dX4_narrows_104 : decode cX4_narrows 104 = .ok (.iload_n 2, 1) := by decide +kernel
theorem dX4_narrows_105 : decode cX4_narrows 105 = .ok (.iastore, 1) := by decide +kernel
theorem dX4_narrows_106 : decode cX4_narrows 106 = .ok (.iconst 0, 1) := by decide +kernel
theorem dX4_narrows_107 : decode cX4_narrows 107 = .ok (.istore 6, 2) := by decide +kernel
theorem dX4_narrows_109 : decode cX4_narrows 109 = .ok (.iconst 0, 1) := by decide +kernel
theorem dX4_narrows_110 : decode cX4_narrows 110 = .ok (.istore 7, 2) := by decide +kernel
theorem dX4_narrows_112 : decode cX4_narrows 112 = .ok (.iload 7, 2) := by decide +kernel
theorem dX4_narrows_114 : decode cX4_narrows 114 = .ok (.aload_n 0, 1) := by decide +kernel
theorem dX4_narrows_115 : decode cX4_narrows 115 = .ok (.getfield 29, 3) := by decide +kernel
theorem dX4_narrows_118 : decode cX4_narrows 118 = .ok (.if_icmp .ge 52, 3) := by decide +kernel
theorem dX4_narrows_121 : decode cX4_narrows 121 = .ok (.iload 6, 2) := by decide +kernel
theorem dX4_narrows_123 : decode cX4_narrows 123 = .ok (.aload_n 3, 1) := by decide +kernel
theorem dX4_narrows_124 : decode cX4_narrows 124 = .ok (.iload 7, 2) := by decide +kernel
theorem dX4_narrows_126 : decode cX4_narrows 126 = .ok (.iaload, 1) := by decide +kernel
theorem dX4_narrows_127 : decode cX4_narrows 127 = .ok (.ifCond .lt 33, 3) := by decide +kernel
theorem dX4_narrows_130 : decode cX4_narrows 130 = .ok (.aload_n 0, 1) := by decide +kernel
theorem dX4_narrows_131 : decode cX4_narrows 131 = .ok (.iload 7, 2) := by decide +kernel
theorem dX4_narrows_133 : decode cX4_narrows 133 = .ok (.invokevirtual 85, 3) := by decide +kernel
theorem dX4_narrows_136 : decode cX4_narrows 136 = .ok (.ifCond .ne 24, 3) := by decide +kernel
theorem dX4_narrows_139 : decode cX4_narrows 139 = .ok (.aload_n 3, 1) := by decide +kernel
theorem dX4_narrows_140 : decode cX4_narrows 140 = .ok (.iload 7, 2) := by decide +kernel
theorem dX4_narrows_142 : decode cX4_narrows 142 = .ok (.iaload, 1) := by decide +kernel
theorem dX4_narrows_143 : decode cX4_narrows 143 = .ok (.aload_n 0, 1) := by decide +kernel
theorem dX4_narrows_144 : decode cX4_narrows 144 = .ok (.iload 7, 2) := by decide +kernel
theorem dX4_narrows_146 : decode cX4_narrows 146 = .ok (.invokevirtual 79, 3) := by decide +kernel
theorem dX4_narrows_149 : decode cX4_narrows 149 = .ok (.isub, 1) := by decide +kernel
theorem dX4_narrows_150 : decode cX4_narrows 150 = .ok (.aload_n 0, 1) := by decide +kernel
theorem dX4_narrows_151 : decode cX4_narrows 151 = .ok (.iload 7, 2) := by decide +kernel
theorem dX4_narrows_153 : decode cX4_narrows 153 = .ok (.invokevirtual 76, 3) := by decide +kernel
theorem dX4_narrows_156 : decode cX4_narrows 156 = .ok (.iadd, 1) := by decide +kernel
theorem dX4_narrows_157 : decode cX4_narrows 157 = .ok (.goto 4, 3) := by decide +kernel
theorem dX4_narrows_160 : decode cX4_narrows 160 = .ok (.iconst 0, 1) := by decide +kernel
theorem dX4_narrows_161 : decode cX4_narrows 161 = .ok (.iadd, 1) := by decide +kernel
theorem dX4_narrows_162 : decode cX4_narrows 162 = .ok (.istore 6, 2) := by decide +kernel
theorem dX4_narrows_164 : decode cX4_narrows 164 = .ok (.iinc 7 1, 3) := by decide +kernel
theorem dX4_narrows_167 : decode cX4_narrows 167 = .ok (.goto (-55), 3) := by decide +kernel
theorem dX4_narrows_170 : decode cX4_narrows 170 = .ok (.aload_n 0, 1) := by decide +kernel
theorem dX4_narrows_171 : decode cX4_narrows 171 = .ok (.getfield 19, 3) := by decide +kernel
theorem dX4_narrows_174 : decode cX4_narrows 174 = .ok (.iload_n 1, 1) := by decide +kernel
theorem dX4_narrows_175 : decode cX4_narrows 175 = .ok (.iload 4, 2) := by decide +kernel
theorem dX4_narrows_177 : decode cX4_narrows 177 = .ok (.iastore, 1) := by decide +kernel
theorem dX4_narrows_178 : decode cX4_narrows 178 = .ok (.aload_n 0, 1) := by decide +kernel
theorem dX4_narrows_179 : decode cX4_narrows 179 = .ok (.getfield 22, 3) := by decide +kernel
theorem dX4_narrows_182 : decode cX4_narrows 182 = .ok (.iload_n 1, 1) := by decide +kernel
theorem dX4_narrows_183 : decode cX4_narrows 183 = .ok (.iload 5, 2) := by decide +kernel
theorem dX4_narrows_185 : decode cX4_narrows 185 = .ok (.iastore, 1) := by decide +kernel
theorem dX4_narrows_186 : decode cX4_narrows 186 = .ok (.iload 6, 2) := by decide +kernel
theorem dX4_narrows_188 : decode cX4_narrows 188 = .ok (.ireturn, 1) := by decide +kernel
set_option maxRecDepth 20000 in
theorem ggX4_tells_X4_isLayer : GoodIn wsX4_tells wsX4_isLayer := goodIn_r _ [18, 19, 20, 21, 17, 22, 53, 54, 55, 56, 57, 58, 59] (by decide +kernel) (by decide +kernel)
set_option maxRecDepth 20000 in
theorem gX4_tells_X4_isLayer : GoodIn wsX4_tells (wsV RX4 44 RX4 yX4_isLayer wsX4_isLayer) := goodIn_app (goodIn_of _ (by decide +kernel)) ggX4_tells_X4_isLayer
set_option maxRecDepth 20000 in
theorem ggX4_tells_X4_fail : GoodIn wsX4_tells wsX4_fail := goodIn_r _ [26, 1, 53, 54, 55, 56, 57, 58, 59] (by decide +kernel) (by decide +kernel)
set_option maxRecDepth 20000 in
theorem gX4_tells_X4_fail : GoodIn wsX4_tells (wsV RX4 36 RX4 yX4_fail wsX4_fail) := goodIn_app (goodIn_of _ (by decide +kernel)) ggX4_tells_X4_fail
set_option maxRecDepth 20000 in
theorem ggX4_tells_X4_isRefused : GoodIn wsX4_tells wsX4_isRefused := goodIn_r _ [30, 9, 2, 31, 32, 17, 33, 53, 54, 55, 56, 57, 58, 59] (by decide +kernel) (by decide +kernel)
set_option maxRecDepth 20000 in
theorem gX4_tells_X4_isRefused : GoodIn wsX4_tells (wsV RX4 48 RX4 yX4_isRefused wsX4_isRefused) := goodIn_app (goodIn_of _ (by decide +kernel)) ggX4_tells_X4_isRefused
set_option maxRecDepth 20000 in
theorem ggX4_tells_X4_pairs : GoodIn wsX4_tells wsX4_pairs := goodIn_r _ [37, 19, 2, 38, 39, 17, 40, 53, 54, 55, 56, 57, 58, 59] (by decide +kernel) (by decide +kernel)
set_option maxRecDepth 20000 in
theorem gX4_tells_X4_pairs : GoodIn wsX4_tells (wsV RX4 111 RX4 yX4_pairs wsX4_pairs) := goodIn_app (goodIn_of _ (by decide +kernel)) ggX4_tells_X4_pairs
set_option maxRecDepth 20000 in
theorem ggX4_tells_X4_andAbove : GoodIn wsX4_tells wsX4_andAbove := goodIn_r _ [44, 19, 2, 53, 54, 55, 56, 57, 58, 59] (by decide +kernel) (by decide +kernel)
set_option maxRecDepth 20000 in
theorem gX4_tells_X4_andAbove : GoodIn wsX4_tells (wsV RX4 51 RX4 yX4_andAbove wsX4_andAbove) := goodIn_app (goodIn_of _ (by decide +kernel)) ggX4_tells_X4_andAbove
set_option maxRecDepth 20000 in
theorem ggX4_tells_X4_andBeneath : GoodIn wsX4_tells wsX4_andBeneath := goodIn_r _ [48, 19, 2, 31, 32, 17, 33, 53, 54, 55, 56, 57, 58, 59] (by decide +kernel) (by decide +kernel)
set_option maxRecDepth 20000 in
theorem gX4_tells_X4_andBeneath : GoodIn wsX4_tells (wsV RX4 54 RX4 yX4_andBeneath wsX4_andBeneath) := goodIn_app (goodIn_of _ (by decide +kernel)) ggX4_tells_X4_andBeneath
set_option maxRecDepth 20000 in
theorem ggX4_tells_X4_lay : GoodIn wsX4_tells wsX4_lay := goodIn_r _ [52, 19, 2, 31, 32, 17, 33, 53, 54, 55, 56, 57, 58, 59] (by decide +kernel) (by decide +kernel)
set_option maxRecDepth 20000 in
theorem gX4_tells_X4_lay : GoodIn wsX4_tells (wsV RX4 57 RX4 yX4_lay wsX4_lay) := goodIn_app (goodIn_of _ (by decide +kernel)) ggX4_tells_X4_lay
theorem dX4_tells_0 : decode cX4_tells 0 = .ok (.aload_n 0, 1) := by decide +kernel
theorem dX4_tells_1 : decode cX4_tells 1 = .ok (.iconst 0, 1) := by decide +kernel
theorem dX4_tells_2 : decode cX4_tells 2 = .ok (.putfield 25, 3) := by decide +kernel
theorem dX4_tells_5 : decode cX4_tells 5 = .ok (.aload_n 0, 1) := by decide +kernel
theorem dX4_tells_6 : decode cX4_tells 6 = .ok (.iload_n 1, 1) := by decide +kernel
theorem dX4_tells_7 : decode cX4_tells 7 = .ok (.invokevirtual 44, 3) := by decide +kernel
theorem dX4_tells_10 : decode cX4_tells 10 = .ok (.ifCond .eq 11, 3) := by decide +kernel
theorem dX4_tells_13 : decode cX4_tells 13 = .ok (.aload_n 0, 1) := by decide +kernel
theorem dX4_tells_14 : decode cX4_tells 14 = .ok (.iload_n 2, 1) := by decide +kernel
theorem dX4_tells_15 : decode cX4_tells 15 = .ok (.invokevirtual 44, 3) := by decide +kernel
theorem dX4_tells_18 : decode cX4_tells 18 = .ok (.ifCond .ne 9, 3) := by decide +kernel
theorem dX4_tells_21 : decode cX4_tells 21 = .ok (.aload_n 0, 1) := by decide +kernel
theorem dX4_tells_22 : decode cX4_tells 22 = .ok (.iconst 1, 1) := by decide +kernel
theorem dX4_tells_23 : decode cX4_tells 23 = .ok (.invokevirtual 36, 3) := by decide +kernel
theorem dX4_tells_26 : decode cX4_tells 26 = .ok (.ireturn, 1) := by decide +kernel
theorem dX4_tells_27 : decode cX4_tells 27 = .ok (.aload_n 0, 1) := by decide +kernel
theorem dX4_tells_28 : decode cX4_tells 28 = .ok (.iload_n 1, 1) := by decide +kernel
theorem dX4_tells_29 : decode cX4_tells 29 = .ok (.iload_n 2, 1) := by decide +kernel
theorem dX4_tells_30 : decode cX4_tells 30 = .ok (.invokevirtual 48, 3) := by decide +kernel
theorem dX4_tells_33 : decode cX4_tells 33 = .ok (.ifCond .eq 5, 3) := by decide +kernel
theorem dX4_tells_36 : decode cX4_tells 36 = .ok (.iconst (-1), 1) := by decide +kernel
theorem dX4_tells_37 : decode cX4_tells 37 = .ok (.ireturn, 1) := by decide +kernel
theorem dX4_tells_38 : decode cX4_tells 38 = .ok (.aload_n 0, 1) := by decide +kernel
theorem dX4_tells_39 : decode cX4_tells 39 = .ok (.getfield 13, 3) := by decide +kernel
theorem dX4_tells_42 : decode cX4_tells 42 = .ok (.invokevirtual 117, 3) := by decide +kernel
theorem dX4_tells_45 : decode cX4_tells 45 = .ok (.checkcast 118, 3) := by decide +kernel
theorem dX4_tells_48 : decode cX4_tells 48 = .ok (.astore_n 3, 1) := by decide +kernel
theorem dX4_tells_49 : decode cX4_tells 49 = .ok (.aload_n 0, 1) := by decide +kernel
theorem dX4_tells_50 : decode cX4_tells 50 = .ok (.invokevirtual 111, 3) := by decide +kernel
theorem dX4_tells_53 : decode cX4_tells 53 = .ok (.istore 4, 2) := by decide +kernel
theorem dX4_tells_55 : decode cX4_tells 55 = .ok (.aload_n 0, 1) := by decide +kernel
theorem dX4_tells_56 : decode cX4_tells 56 = .ok (.aload_n 0, 1) := by decide +kernel
theorem dX4_tells_57 : decode cX4_tells 57 = .ok (.aload_n 0, 1) := by decide +kernel
theorem dX4_tells_58 : decode cX4_tells 58 = .ok (.getfield 9, 3) := by decide +kernel
theorem dX4_tells_61 : decode cX4_tells 61 = .ok (.iload_n 1, 1) := by decide +kernel
theorem dX4_tells_62 : decode cX4_tells 62 = .ok (.iaload, 1) := by decide +kernel
theorem dX4_tells_63 : decode cX4_tells 63 = .ok (.invokevirtual 51, 3) := by decide +kernel
theorem dX4_tells_66 : decode cX4_tells 66 = .ok (.aload_n 0, 1) := by decide +kernel
theorem dX4_tells_67 : decode cX4_tells 67 = .ok (.aload_n 0, 1) := by decide +kernel
theorem dX4_tells_68 : decode cX4_tells 68 = .ok (.getfield 9, 3) := by decide +kernel
theorem dX4_tells_71 : decode cX4_tells 71 = .ok (.iload_n 2, 1) := by decide +kernel
theorem dX4_tells_72 : decode cX4_tells 72 = .ok (.iaload, 1) := by decide +kernel
theorem dX4_tells_73 : decode cX4_tells 73 = .ok (.invokevirtual 54, 3) := by decide +kernel
theorem dX4_tells_76 : decode cX4_tells 76 = .ok (.invokevirtual 57, 3) := by decide +kernel
theorem dX4_tells_79 : decode cX4_tells 79 = .ok (.aload_n 0, 1) := by decide +kernel
theorem dX4_tells_80 : decode cX4_tells 80 = .ok (.invokevirtual 111, 3) := by decide +kernel
theorem dX4_tells_83 : decode cX4_tells 83 = .ok (.iload 4, 2) := by decide +kernel
theorem dX4_tells_85 : decode cX4_tells 85 = .ok (.isub, 1) := by decide +kernel
theorem dX4_tells_86 : decode cX4_tells 86 = .ok (.istore 5, 2) := by decide +kernel
theorem dX4_tells_88 : decode cX4_tells 88 = .ok (.aload_n 3, 1) := by decide +kernel
theorem dX4_tells_89 : decode cX4_tells 89 = .ok (.iconst 0, 1) := by decide +kernel
theorem dX4_tells_90 : decode cX4_tells 90 = .ok (.aload_n 0, 1) := by decide +kernel
theorem dX4_tells_91 : decode cX4_tells 91 = .ok (.getfield 13, 3) := by decide +kernel
theorem dX4_tells_94 : decode cX4_tells 94 = .ok (.iconst 0, 1) := by decide +kernel
theorem dX4_tells_95 : decode cX4_tells 95 = .ok (.bipush 14, 2) := by decide +kernel
theorem dX4_tells_97 : decode cX4_tells 97 = .ok (.invokestatic 122, 3) := by decide +kernel
theorem dX4_tells_100 : decode cX4_tells 100 = .ok (.iload 5, 2) := by decide +kernel
theorem dX4_tells_102 : decode cX4_tells 102 = .ok (.ireturn, 1) := by decide +kernel
set_option maxRecDepth 20000 in
theorem ggX4_mean_X4_phases : GoodIn wsX4_mean wsX4_phases := goodIn_r _ [7, 8, 2, 9, 10, 11, 12, 13, 14, 15, 6, 16, 17, 18, 19, 20, 21, 22, 23] (by decide +kernel) (by decide +kernel)
set_option maxRecDepth 20000 in
theorem gX4_mean_X4_phases : GoodIn wsX4_mean (wsV RX4 88 RX4 yX4_phases wsX4_phases) := goodIn_app (goodIn_of _ (by decide +kernel)) ggX4_mean_X4_phases
theorem dX4_mean_0 : decode cX4_mean 0 = .ok (.aload_n 0, 1) := by decide +kernel
theorem dX4_mean_1 : decode cX4_mean 1 = .ok (.iconst 0, 1) := by decide +kernel
theorem dX4_mean_2 : decode cX4_mean 2 = .ok (.putfield 25, 3) := by decide +kernel
theorem dX4_mean_5 : decode cX4_mean 5 = .ok (.iconst 0, 1) := by decide +kernel
theorem dX4_mean_6 : decode cX4_mean 6 = .ok (.istore_n 1, 1) := by decide +kernel
theorem dX4_mean_7 : decode cX4_mean 7 = .ok (.aload_n 0, 1) := by decide +kernel
theorem dX4_mean_8 : decode cX4_mean 8 = .ok (.invokevirtual 88, 3) := by decide +kernel
theorem dX4_mean_11 : decode cX4_mean 11 = .ok (.astore_n 2, 1) := by decide +kernel
theorem dX4_mean_12 : decode cX4_mean 12 = .ok (.aload_n 2, 1) := by decide +kernel
theorem dX4_mean_13 : decode cX4_mean 13 = .ok (.arraylength, 1) := by decide +kernel
theorem dX4_mean_14 : decode cX4_mean 14 = .ok (.istore_n 3, 1) := by decide +kernel
theorem dX4_mean_15 : decode cX4_mean 15 = .ok (.iconst 0, 1) := by decide +kernel
theorem dX4_mean_16 : decode cX4_mean 16 = .ok (.istore 4, 2) := by decide +kernel
theorem dX4_mean_18 : decode cX4_mean 18 = .ok (.iload 4, 2) := by decide +kernel
theorem dX4_mean_20 : decode cX4_mean 20 = .ok (.iload_n 3, 1) := by decide +kernel
theorem dX4_mean_21 : decode cX4_mean 21 = .ok (.if_icmp .ge 20, 3) := by decide +kernel
theorem dX4_mean_24 : decode cX4_mean 24 = .ok (.aload_n 2, 1) := by decide +kernel
theorem dX4_mean_25 : decode cX4_mean 25 = .ok (.iload 4, 2) := by decide +kernel
theorem dX4_mean_27 : decode cX4_mean 27 = .ok (.iaload, 1) := by decide +kernel
theorem dX4_mean_28 : decode cX4_mean 28 = .ok (.istore 5, 2) := by decide +kernel
theorem dX4_mean_30 : decode cX4_mean 30 = .ok (.iload_n 1, 1) := by decide +kernel
theorem dX4_mean_31 : decode cX4_mean 31 = .ok (.iload 5, 2) := by decide +kernel
theorem dX4_mean_33 : decode cX4_mean 33 = .ok (.iadd, 1) := by decide +kernel
theorem dX4_mean_34 : decode cX4_mean 34 = .ok (.istore_n 1, 1) := by decide +kernel
theorem dX4_mean_35 : decode cX4_mean 35 = .ok (.iinc 4 1, 3) := by decide +kernel
theorem dX4_mean_38 : decode cX4_mean 38 = .ok (.goto (-20), 3) := by decide +kernel
theorem dX4_mean_41 : decode cX4_mean 41 = .ok (.aload_n 0, 1) := by decide +kernel
theorem dX4_mean_42 : decode cX4_mean 42 = .ok (.getfield 29, 3) := by decide +kernel
theorem dX4_mean_45 : decode cX4_mean 45 = .ok (.ifCond .ne 7, 3) := by decide +kernel
theorem dX4_mean_48 : decode cX4_mean 48 = .ok (.dconst 0, 1) := by decide +kernel
theorem dX4_mean_49 : decode cX4_mean 49 = .ok (.goto 11, 3) := by decide +kernel
theorem dX4_mean_52 : decode cX4_mean 52 = .ok (.iload_n 1, 1) := by decide +kernel
theorem dX4_mean_53 : decode cX4_mean 53 = .ok (.i2d, 1) := by decide +kernel
theorem dX4_mean_54 : decode cX4_mean 54 = .ok (.aload_n 0, 1) := by decide +kernel
theorem dX4_mean_55 : decode cX4_mean 55 = .ok (.getfield 29, 3) := by decide +kernel
theorem dX4_mean_58 : decode cX4_mean 58 = .ok (.i2d, 1) := by decide +kernel
theorem dX4_mean_59 : decode cX4_mean 59 = .ok (.ddiv, 1) := by decide +kernel
theorem dX4_mean_60 : decode cX4_mean 60 = .ok (.dreturn, 1) := by decide +kernel
set_option maxRecDepth 20000 in
theorem ggX4_digest_X4_counted : GoodIn wsX4_digest wsX4_counted := goodIn_r _ [10, 4, 11, 12, 13, 14, 15, 16, 17, 18, 19, 9, 20, 21, 5, 22, 23, 24, 25, 26, 27, 28, 29, 30, 31, 32, 33, 34, 35, 36, 37, 38, 39, 40, 41, 42, 43, 44, 45, 46, 47, 48, 49, 50, 51, 52, 53, 54, 55, 56, 77, 78, 79, 80, 81, 82, 83] (by decide +kernel) (by decide +kernel)
set_option maxRecDepth 20000 in
theorem gX4_digest_X4_counted : GoodIn wsX4_digest (wsV RX4 114 RX4 yX4_counted wsX4_counted) := goodIn_app (goodIn_of _ (by decide +kernel)) ggX4_digest_X4_counted
set_option maxRecDepth 20000 in
theorem ggX4_digest_X4_orderAt : GoodIn wsX4_digest wsX4_orderAt := goodIn_r _ [60, 4, 5, 22, 23, 9, 24, 77, 78, 79, 80, 81, 82, 83] (by decide +kernel) (by decide +kernel)
set_option maxRecDepth 20000 in
theorem gX4_digest_X4_orderAt : GoodIn wsX4_digest (wsV RX4 101 RX4 yX4_orderAt wsX4_orderAt) := goodIn_app (goodIn_of _ (by decide +kernel)) ggX4_digest_X4_orderAt
set_option maxRecDepth 20000 in
theorem ggX4_digest_X4_toldOf : GoodIn wsX4_digest wsX4_toldOf := goodIn_r _ [64, 5, 15, 33, 34, 35, 9, 36, 4, 37, 11, 12, 13, 14, 38, 39, 40, 41, 22, 23, 24, 42, 43, 44, 45, 46, 47, 48, 49, 29, 30, 31, 32, 17, 18, 19, 20, 21, 54, 55, 56, 65, 66, 67, 68, 69, 70, 71, 72, 73, 74, 75, 76, 16, 77, 78, 79, 80, 81, 82, 83] (by decide +kernel) (by decide +kernel)
set_option maxRecDepth 20000 in
theorem gX4_digest_X4_toldOf : GoodIn wsX4_digest (wsV RX4 98 RX4 yX4_toldOf wsX4_toldOf) := goodIn_app (goodIn_of _ (by decide +kernel)) ggX4_digest_X4_toldOf
set_option maxRecDepth 20000 in
theorem ggX4_digest_X4_all : GoodIn wsX4_digest wsX4_all := goodIn_r _ [76, 4, 15, 16, 22, 23, 9, 24, 77, 78, 79, 80, 81, 82, 83] (by decide +kernel) (by decide +kernel)
set_option maxRecDepth 20000 in
theorem gX4_digest_X4_all : GoodIn wsX4_digest (wsV RX4 82 RX4 yX4_all wsX4_all) := goodIn_app (goodIn_of _ (by decide +kernel)) ggX4_digest_X4_all
theorem dX4_digest_0 : decode cX4_digest 0 = .ok (.aload_n 0, 1) := by decide +kernel
theorem dX4_digest_1 : decode cX4_digest 1 = .ok (.iconst 0, 1) := by decide +kernel
theorem dX4_digest_2 : decode cX4_digest 2 = .ok (.putfield 25, 3) := by decide +kernel
theorem dX4_digest_5 : decode cX4_digest 5 = .ok (.ldc2_w 128, 3) := by decide +kernel
theorem dX4_digest_8 : decode cX4_digest 8 = .ok (.lstore_n 1, 1) := by decide +kernel
theorem dX4_digest_9 : decode cX4_digest 9 = .ok (.iconst 0, 1) := by decide +kernel
theorem dX4_digest_10 : decode cX4_digest 10 = .ok (.istore_n 3, 1) := by decide +kernel
theorem dX4_digest_11 : decode cX4_digest 11 = .ok (.iload_n 3, 1) := by decide +kernel
theorem dX4_digest_12 : decode cX4_digest 12 = .ok (.bipush 7, 2) := by decide +kernel
theorem dX4_digest_14 : decode cX4_digest 14 = .ok (.if_icmp .ge 22, 3) := by decide +kernel
theorem dX4_digest_17 : decode cX4_digest 17 = .ok (.lload_n 1, 1) := by decide +kernel
theorem dX4_digest_18 : decode cX4_digest 18 = .ok (.ldc2_w 130, 3) := by decide +kernel
theorem dX4_digest_21 : decode cX4_digest 21 = .ok (.lmul, 1) := by decide +kernel
theorem dX4_digest_22 : decode cX4_digest 22 = .ok (.aload_n 0, 1) := by decide +kernel
theorem dX4_digest_23 : decode cX4_digest 23 = .ok (.iload_n 3, 1) := by decide +kernel
theorem dX4_digest_24 : decode cX4_digest 24 = .ok (.invokevirtual 114, 3) := by decide +kernel
theorem dX4_digest_27 : decode cX4_digest 27 = .ok (.i2l, 1) := by decide +kernel
theorem dX4_digest_28 : decode cX4_digest 28 = .ok (.ladd, 1) := by decide +kernel
theorem dX4_digest_29 : decode cX4_digest 29 = .ok (.lstore_n 1, 1) := by decide +kernel
theorem dX4_digest_30 : decode cX4_digest 30 = .ok (.iinc 3 1, 3) := by decide +kernel
theorem dX4_digest_33 : decode cX4_digest 33 = .ok (.goto (-22), 3) := by decide +kernel
theorem dX4_digest_36 : decode cX4_digest 36 = .ok (.iconst 0, 1) := by decide +kernel
theorem dX4_digest_37 : decode cX4_digest 37 = .ok (.istore_n 3, 1) := by decide +kernel
theorem dX4_digest_38 : decode cX4_digest 38 = .ok (.iload_n 3, 1) := by decide +kernel
theorem dX4_digest_39 : decode cX4_digest 39 = .ok (.aload_n 0, 1) := by decide +kernel
theorem dX4_digest_40 : decode cX4_digest 40 = .ok (.getfield 29, 3) := by decide +kernel
theorem dX4_digest_43 : decode cX4_digest 43 = .ok (.if_icmp .ge 22, 3) := by decide +kernel
theorem dX4_digest_46 : decode cX4_digest 46 = .ok (.lload_n 1, 1) := by decide +kernel
theorem dX4_digest_47 : decode cX4_digest 47 = .ok (.ldc2_w 130, 3) := by decide +kernel
theorem dX4_digest_50 : decode cX4_digest 50 = .ok (.lmul, 1) := by decide +kernel
theorem dX4_digest_51 : decode cX4_digest 51 = .ok (.aload_n 0, 1) := by decide +kernel
theorem dX4_digest_52 : decode cX4_digest 52 = .ok (.iload_n 3, 1) := by decide +kernel
theorem dX4_digest_53 : decode cX4_digest 53 = .ok (.invokevirtual 101, 3) := by decide +kernel
theorem dX4_digest_56 : decode cX4_digest 56 = .ok (.i2l, 1) := by decide +kernel
theorem dX4_digest_57 : decode cX4_digest 57 = .ok (.ladd, 1) := by decide +kernel
theorem dX4_digest_58 : decode cX4_digest 58 = .ok (.lstore_n 1, 1) := by decide +kernel
theorem dX4_digest_59 : decode cX4_digest 59 = .ok (.iinc 3 1, 3) := by decide +kernel
theorem dX4_digest_62 : decode cX4_digest 62 = .ok (.goto (-24), 3) := by decide +kernel
theorem dX4_digest_65 : decode cX4_digest 65 = .ok (.iconst 0, 1) := by decide +kernel
theorem dX4_digest_66 : decode cX4_digest 66 = .ok (.istore_n 3, 1) := by decide +kernel
theorem dX4_digest_67 : decode cX4_digest 67 = .ok (.iload_n 3, 1) := by decide +kernel
theorem dX4_digest_68 : decode cX4_digest 68 = .ok (.aload_n 0, 1) := by decide +kernel
theorem dX4_digest_69 : decode cX4_digest 69 = .ok (.getfield 29, 3) := by decide +kernel
theorem dX4_digest_72 : decode cX4_digest 72 = .ok (.if_icmp .ge 84, 3) := by decide +kernel
theorem dX4_digest_75 : decode cX4_digest 75 = .ok (.iconst 0, 1) := by decide +kernel
theorem dX4_digest_76 : decode cX4_digest 76 = .ok (.istore 4, 2) := by decide +kernel
theorem dX4_digest_78 : decode cX4_digest 78 = .ok (.iload 4, 2) := by decide +kernel
theorem dX4_digest_80 : decode cX4_digest 80 = .ok (.bipush 9, 2) := by decide +kernel
theorem dX4_digest_82 : decode cX4_digest 82 = .ok (.if_icmp .ge 24, 3) := by decide +kernel
theorem dX4_digest_85 : decode cX4_digest 85 = .ok (.lload_n 1, 1) := by decide +kernel
theorem dX4_digest_86 : decode cX4_digest 86 = .ok (.ldc2_w 130, 3) := by decide +kernel
theorem dX4_digest_89 : decode cX4_digest 89 = .ok (.lmul, 1) := by decide +kernel
theorem dX4_digest_90 : decode cX4_digest 90 = .ok (.aload_n 0, 1) := by decide +kernel
theorem dX4_digest_91 : decode cX4_digest 91 = .ok (.iload_n 3, 1) := by decide +kernel
theorem dX4_digest_92 : decode cX4_digest 92 = .ok (.iload 4, 2) := by decide +kernel
theorem dX4_digest_94 : decode cX4_digest 94 = .ok (.invokevirtual 98, 3) := by decide +kernel
theorem dX4_digest_97 : decode cX4_digest 97 = .ok (.i2l, 1) := by decide +kernel
theorem dX4_digest_98 : decode cX4_digest 98 = .ok (.ladd, 1) := by decide +kernel
theorem dX4_digest_99 : decode cX4_digest 99 = .ok (.lstore_n 1, 1) := by decide +kernel
theorem dX4_digest_100 : decode cX4_digest 100 = .ok (.iinc 4 1, 3) := by decide +kernel
theorem dX4_digest_103 : decode cX4_digest 103 = .ok (.goto (-25), 3) := by decide +kernel
theorem dX4_digest_106 : decode cX4_digest 106 = .ok (.iconst 0, 1) := by decide +kernel
theorem dX4_digest_107 : decode cX4_digest 107 = .ok (.istore 4, 2) := by decide +kernel
theorem dX4_digest_109 : decode cX4_digest 109 = .ok (.iload 4, 2) := by decide +kernel
theorem dX4_digest_111 : decode cX4_digest 111 = .ok (.iconst 4, 1) := by decide +kernel
theorem dX4_digest_112 : decode cX4_digest 112 = .ok (.if_icmp .ge 24, 3) := by decide +kernel
theorem dX4_digest_115 : decode cX4_digest 115 = .ok (.lload_n 1, 1) := by decide +kernel
theorem dX4_digest_116 : decode cX4_digest 116 = .ok (.ldc2_w 130, 3) := by decide +kernel
theorem dX4_digest_119 : decode cX4_digest 119 = .ok (.lmul, 1) := by decide +kernel
theorem dX4_digest_120 : decode cX4_digest 120 = .ok (.aload_n 0, 1) := by decide +kernel
theorem dX4_digest_121 : decode cX4_digest 121 = .ok (.iload_n 3, 1) := by decide +kernel
theorem dX4_digest_122 : decode cX4_digest 122 = .ok (.iload 4, 2) := by decide +kernel
theorem dX4_digest_124 : decode cX4_digest 124 = .ok (.invokevirtual 82, 3) := by decide +kernel
theorem dX4_digest_127 : decode cX4_digest 127 = .ok (.i2l, 1) := by decide +kernel
theorem dX4_digest_128 : decode cX4_digest 128 = .ok (.ladd, 1) := by decide +kernel
theorem dX4_digest_129 : decode cX4_digest 129 = .ok (.lstore_n 1, 1) := by decide +kernel
theorem dX4_digest_130 : decode cX4_digest 130 = .ok (.iinc 4 1, 3) := by decide +kernel
theorem dX4_digest_133 : decode cX4_digest 133 = .ok (.goto (-24), 3) := by decide +kernel
theorem dX4_digest_136 : decode cX4_digest 136 = .ok (.lload_n 1, 1) := by decide +kernel
theorem dX4_digest_137 : decode cX4_digest 137 = .ok (.ldc2_w 130, 3) := by decide +kernel
theorem dX4_digest_140 : decode cX4_digest 140 = .ok (.lmul, 1) := by decide +kernel
theorem dX4_digest_141 : decode cX4_digest 141 = .ok (.aload_n 0, 1) := by decide +kernel
theorem dX4_digest_142 : decode cX4_digest 142 = .ok (.getfield 13, 3) := by decide +kernel
theorem dX4_digest_145 : decode cX4_digest 145 = .ok (.iload_n 3, 1) := by decide +kernel
theorem dX4_digest_146 : decode cX4_digest 146 = .ok (.iaload, 1) := by decide +kernel
theorem dX4_digest_147 : decode cX4_digest 147 = .ok (.i2l, 1) := by decide +kernel
theorem dX4_digest_148 : decode cX4_digest 148 = .ok (.ladd, 1) := by decide +kernel
theorem dX4_digest_149 : decode cX4_digest 149 = .ok (.lstore_n 1, 1) := by decide +kernel
theorem dX4_digest_150 : decode cX4_digest 150 = .ok (.iinc 3 1, 3) := by decide +kernel
theorem dX4_digest_153 : decode cX4_digest 153 = .ok (.goto (-86), 3) := by decide +kernel
theorem dX4_digest_156 : decode cX4_digest 156 = .ok (.lload_n 1, 1) := by decide +kernel
theorem dX4_digest_157 : decode cX4_digest 157 = .ok (.lreturn, 1) := by decide +kernel
theorem dJ6_bitCount_0f7a4_0 : decode cJ6_bitCount_0f7a4 0 = .ok (.iload_n 0, 1) := by decide +kernel
theorem dJ6_bitCount_0f7a4_1 : decode cJ6_bitCount_0f7a4 1 = .ok (.iload_n 0, 1) := by decide +kernel
theorem dJ6_bitCount_0f7a4_2 : decode cJ6_bitCount_0f7a4 2 = .ok (.iconst 1, 1) := by decide +kernel
theorem dJ6_bitCount_0f7a4_3 : decode cJ6_bitCount_0f7a4 3 = .ok (.iushr, 1) := by decide +kernel
theorem dJ6_bitCount_0f7a4_4 : decode cJ6_bitCount_0f7a4 4 = .ok (.ldc_w 265, 3) := by decide +kernel
theorem dJ6_bitCount_0f7a4_7 : decode cJ6_bitCount_0f7a4 7 = .ok (.iand, 1) := by decide +kernel
theorem dJ6_bitCount_0f7a4_8 : decode cJ6_bitCount_0f7a4 8 = .ok (.isub, 1) := by decide +kernel
theorem dJ6_bitCount_0f7a4_9 : decode cJ6_bitCount_0f7a4 9 = .ok (.istore_n 0, 1) := by decide +kernel
theorem dJ6_bitCount_0f7a4_10 : decode cJ6_bitCount_0f7a4 10 = .ok (.iload_n 0, 1) := by decide +kernel
theorem dJ6_bitCount_0f7a4_11 : decode cJ6_bitCount_0f7a4 11 = .ok (.ldc_w 266, 3) := by decide +kernel
theorem dJ6_bitCount_0f7a4_14 : decode cJ6_bitCount_0f7a4 14 = .ok (.iand, 1) := by decide +kernel
theorem dJ6_bitCount_0f7a4_15 : decode cJ6_bitCount_0f7a4 15 = .ok (.iload_n 0, 1) := by decide +kernel
theorem dJ6_bitCount_0f7a4_16 : decode cJ6_bitCount_0f7a4 16 = .ok (.iconst 2, 1) := by decide +kernel
theorem dJ6_bitCount_0f7a4_17 : decode cJ6_bitCount_0f7a4 17 = .ok (.iushr, 1) := by decide +kernel
theorem dJ6_bitCount_0f7a4_18 : decode cJ6_bitCount_0f7a4 18 = .ok (.ldc_w 266, 3) := by decide +kernel
theorem dJ6_bitCount_0f7a4_21 : decode cJ6_bitCount_0f7a4 21 = .ok (.iand, 1) := by decide +kernel
theorem dJ6_bitCount_0f7a4_22 : decode cJ6_bitCount_0f7a4 22 = .ok (.iadd, 1) := by decide +kernel
theorem dJ6_bitCount_0f7a4_23 : decode cJ6_bitCount_0f7a4 23 = .ok (.istore_n 0, 1) := by decide +kernel
theorem dJ6_bitCount_0f7a4_24 : decode cJ6_bitCount_0f7a4 24 = .ok (.iload_n 0, 1) := by decide +kernel
theorem dJ6_bitCount_0f7a4_25 : decode cJ6_bitCount_0f7a4 25 = .ok (.iload_n 0, 1) := by decide +kernel
theorem dJ6_bitCount_0f7a4_26 : decode cJ6_bitCount_0f7a4 26 = .ok (.iconst 4, 1) := by decide +kernel
theorem dJ6_bitCount_0f7a4_27 : decode cJ6_bitCount_0f7a4 27 = .ok (.iushr, 1) := by decide +kernel
theorem dJ6_bitCount_0f7a4_28 : decode cJ6_bitCount_0f7a4 28 = .ok (.iadd, 1) := by decide +kernel
theorem dJ6_bitCount_0f7a4_29 : decode cJ6_bitCount_0f7a4 29 = .ok (.ldc_w 267, 3) := by decide +kernel
theorem dJ6_bitCount_0f7a4_32 : decode cJ6_bitCount_0f7a4 32 = .ok (.iand, 1) := by decide +kernel
theorem dJ6_bitCount_0f7a4_33 : decode cJ6_bitCount_0f7a4 33 = .ok (.istore_n 0, 1) := by decide +kernel
theorem dJ6_bitCount_0f7a4_34 : decode cJ6_bitCount_0f7a4 34 = .ok (.iload_n 0, 1) := by decide +kernel
theorem dJ6_bitCount_0f7a4_35 : decode cJ6_bitCount_0f7a4 35 = .ok (.iload_n 0, 1) := by decide +kernel
theorem dJ6_bitCount_0f7a4_36 : decode cJ6_bitCount_0f7a4 36 = .ok (.bipush 8, 2) := by decide +kernel
theorem dJ6_bitCount_0f7a4_38 : decode cJ6_bitCount_0f7a4 38 = .ok (.iushr, 1) := by decide +kernel
theorem dJ6_bitCount_0f7a4_39 : decode cJ6_bitCount_0f7a4 39 = .ok (.iadd, 1) := by decide +kernel
theorem dJ6_bitCount_0f7a4_40 : decode cJ6_bitCount_0f7a4 40 = .ok (.istore_n 0, 1) := by decide +kernel
theorem dJ6_bitCount_0f7a4_41 : decode cJ6_bitCount_0f7a4 41 = .ok (.iload_n 0, 1) := by decide +kernel
theorem dJ6_bitCount_0f7a4_42 : decode cJ6_bitCount_0f7a4 42 = .ok (.iload_n 0, 1) := by decide +kernel
theorem dJ6_bitCount_0f7a4_43 : decode cJ6_bitCount_0f7a4 43 = .ok (.bipush 16, 2) := by decide +kernel
theorem dJ6_bitCount_0f7a4_45 : decode cJ6_bitCount_0f7a4 45 = .ok (.iushr, 1) := by decide +kernel
theorem dJ6_bitCount_0f7a4_46 : decode cJ6_bitCount_0f7a4 46 = .ok (.iadd, 1) := by decide +kernel
theorem dJ6_bitCount_0f7a4_47 : decode cJ6_bitCount_0f7a4 47 = .ok (.istore_n 0, 1) := by decide +kernel
theorem dJ6_bitCount_0f7a4_48 : decode cJ6_bitCount_0f7a4 48 = .ok (.iload_n 0, 1) := by decide +kernel
theorem dJ6_bitCount_0f7a4_49 : decode cJ6_bitCount_0f7a4 49 = .ok (.bipush 63, 2) := by decide +kernel
theorem dJ6_bitCount_0f7a4_51 : decode cJ6_bitCount_0f7a4 51 = .ok (.iand, 1) := by decide +kernel
theorem dJ6_bitCount_0f7a4_52 : decode cJ6_bitCount_0f7a4 52 = .ok (.ireturn, 1) := by decide +kernel
theorem dJ9_max_7cf53_0 : decode cJ9_max_7cf53 0 = .ok (.iload_n 0, 1) := by decide +kernel
theorem dJ9_max_7cf53_1 : decode cJ9_max_7cf53 1 = .ok (.iload_n 1, 1) := by decide +kernel
theorem dJ9_max_7cf53_2 : decode cJ9_max_7cf53 2 = .ok (.if_icmp .lt 7, 3) := by decide +kernel
theorem dJ9_max_7cf53_5 : decode cJ9_max_7cf53 5 = .ok (.iload_n 0, 1) := by decide +kernel
theorem dJ9_max_7cf53_6 : decode cJ9_max_7cf53 6 = .ok (.goto 4, 3) := by decide +kernel
theorem dJ9_max_7cf53_9 : decode cJ9_max_7cf53 9 = .ok (.iload_n 1, 1) := by decide +kernel
theorem dJ9_max_7cf53_10 : decode cJ9_max_7cf53 10 = .ok (.ireturn, 1) := by decide +kernel
theorem dJ9_min_7cf53_0 : decode cJ9_min_7cf53 0 = .ok (.iload_n 0, 1) := by decide +kernel
theorem dJ9_min_7cf53_1 : decode cJ9_min_7cf53 1 = .ok (.iload_n 1, 1) := by decide +kernel
theorem dJ9_min_7cf53_2 : decode cJ9_min_7cf53 2 = .ok (.if_icmp .gt 7, 3) := by decide +kernel
theorem dJ9_min_7cf53_5 : decode cJ9_min_7cf53 5 = .ok (.iload_n 0, 1) := by decide +kernel
theorem dJ9_min_7cf53_6 : decode cJ9_min_7cf53 6 = .ok (.goto 4, 3) := by decide +kernel
theorem dJ9_min_7cf53_9 : decode cJ9_min_7cf53 9 = .ok (.iload_n 1, 1) := by decide +kernel
theorem dJ9_min_7cf53_10 : decode cJ9_min_7cf53 10 = .ok (.ireturn, 1) := by decide +kernel
end
section
/-! numbers, booleans, what a method's world stands on -/
def bI (b : Bool) : Int32 := if b then 1 else 0
theorem bI_t : bI true = 1 := rfl
theorem bI_f : bI false = 0 := rfl
theorem bI_of {b : Bool} (h : b = true) : (1 : Int32) = bI b := by rw [h]; rfl
theorem bI_no {b : Bool} (h : b = false) : (0 : Int32) = bI b := by rw [h]; rfl
theorem bI_nar (b : Bool) : narrow .boolean (.int (bI b)) = .int (bI b) := by cases b <;> rfl
/-- classes, arrays and nest mates, as the tables have them -/
def KK (D : va_G) (cA : ClassId) (U : State) : Prop := va_K D vwCl [(cA, .int)] U ∧ va_Nw (.methodLinkNest RX0 28 yX3_has "CairnShells") U ∧ va_Nw (.methodLinkNest RX1 15 yX3_has "CairnShells") U ∧ va_Nw (.methodLinkNest RX2 31 yX3_has "CairnShells") U
theorem KK.warm {D : va_G} {cA : ClassId} {s U : State} (hW : s.WarmedH U.vm) (h : KK D cA s) : KK D cA U := ⟨va_K.moved hW.alike h.1, va_Nw.warmM hW h.2.1, va_Nw.warmM hW h.2.2.1, va_Nw.warmM hW h.2.2.2⟩
theorem KK.call {D : va_G} {cA : ClassId} {U : State} {g : JFrame} {mk : MethodId} {a : Array Value} (h : KK D cA U) : KK D cA (U.calling g mk a) := ⟨va_K.moved (u := U) (U := U.calling g mk a) (Vm.Alike.refl U.vm) h.1, va_Nw.same rfl rfl h.2.1, va_Nw.same rfl rfl h.2.2.1, va_Nw.same rfl rfl h.2.2.2⟩
/-- a method's start: the arguments, the heap as it is, the tables -/
abbrev cP (As : List Value) (D : va_G) (cA : ClassId) (H0 : Heap) : Array Value → State → Prop := va_Pc As (fun U => U.heap = H0 ∧ KK D cA U)
/-- the end of a method that reads: the answer, the heap as it was -/
abbrev roQ (v : Option Value) (H0 : Heap) : Array Value → State → Outcome → State → Prop := fun _ _ oc t => oc = .returned v ∧ t.heap = H0
def RO (l : Launch) (y : MethodName) (ws : List Cond) (fr lo : Nat) (As : List Value) (D : va_G) (cA : ClassId) (H0 : Heap) (v : Option Value) : Prop := Met l y ws { frames := fr, cells := 0, slots := 0, locals := lo } (cP As D cA H0) (roQ v H0) 0 0 (fun _ => False)
/-- the end of a method that writes: the answer, its world W as W', all else that was there as it was -/
abbrev wrQ (v : Option Value) (D : va_G) (W W' : va_W) (H0 : Heap) : Array Value → State → Outcome → State → Prop := fun _ _ oc t => oc = .returned v ∧ va_P D vwCl W' t.heap ∧ H0.size ≤ t.heap.size ∧ ∀ q : Nat, q < H0.size → ¬ va_A W H0.size q → t.heap[q]? = H0[q]?
def WR (l : Launch) (y : MethodName) (ws : List Cond) (fr lo mc ms : Nat) (As : List Value) (D : va_G) (cA : ClassId) (H0 : Heap) (v : Option Value) (W W' : va_W) : Prop := Met l y ws { frames := fr, cells := mc, slots := ms, locals := lo } (cP As D cA H0) (wrQ v D W W' H0) mc ms (va_A W H0.size)
theorem cP_blind {As : List Value} {D : va_G} {cA : ClassId} {H0 : Heap} : FrameBlind (cP As D cA H0) := fun _ _ _ _ q => ⟨q.1, q.2.1, q.2.2.call⟩
theorem cP_V {s : State} {As : List Value} {D : va_G} {cA : ClassId} {H : Heap} {C : String} {b : Addr} (hK : KK D cA s) (hr : ∃ cellB : Cell, H[b]? = some cellB ∧ cellB.vm.isStatics = false ∧ s.vm.findClass C = some cellB.cls) : PreV s H C b (cP (.ref b :: As) D cA H) As := ⟨cP_blind, hr, fun _ hU hW => ⟨rfl, hU, hK.warm hW⟩⟩
theorem cP_S {s : State} {As : List Value} {D : va_G} {cA : ClassId} {H : Heap} (hK : KK D cA s) : PreS s H (cP As D cA H) As := ⟨cP_blind, fun _ hU hW => ⟨rfl, hU, hK.warm hW⟩⟩
theorem RO_of {l : Launch} {y : MethodName} {ws ws' : List Cond} {fr lo : Nat} {As : List Value} {D : va_G} {cA : ClassId} {H0 : Heap} {v : Option Value} {cc : ByteArray} {maxL : Nat} {ret : Option FieldType} (hy : plainName y.cls = true) (hw : ws = Cond.code y cc maxL ret :: ws') (hlen : (lg_sl As).length ≤ maxL)
    (body : ∀ (p : Program) (e : Env) (s : State) (m : MethodId) (below : List Frame) (meth : Method) (c : Code) (ls : Array Slot), p.tables.exec = Jvm.exec → c.code = cc → c.maxLocals = maxL → meth.sig.returnType = ret → s.vm.findClass y.cls = some m.cls → (∀ w ∈ ws, w.before As.toArray s = true) → meth.locks = false → s.heap = H0 → KK D cA s → lv_has ls maxL (lv_args 0 As) →
      W p l e { frames := fr, cells := 0, slots := 0, locals := lo } s m As.toArray below meth c H0 [] 0 0 (MQ below (roQ v H0) As.toArray s 0 0 (fun _ => False)) (F0 m 0 ls [])) : RO l y ws fr lo As D cA H0 v := by
  refine Met.ofW (cc := cc) (maxL := maxL) (ret := ret) hy hw ?_
  intro p e s m args below meth c s₁ B hml hv
  obtain ⟨rfl, rfl, hK⟩ := hv
  rw [lg_entry_eq]
  exact body p e s m below meth c _ B.exec B.bytes hml B.returns (findClass_of_methodNamed B.named) (atoms_spec B.pre) B.notSynchronized rfl hK (lv_entry As hlen)
theorem WR_of {l : Launch} {y : MethodName} {ws ws' : List Cond} {fr lo mc ms : Nat} {As : List Value} {D : va_G} {cA : ClassId} {H0 : Heap} {v : Option Value} {W0 W1 : va_W} {cc : ByteArray} {maxL : Nat} {ret : Option FieldType} (hy : plainName y.cls = true) (hw : ws = Cond.code y cc maxL ret :: ws') (hlen : (lg_sl As).length ≤ maxL)
    (body : ∀ (p : Program) (e : Env) (s : State) (m : MethodId) (below : List Frame) (meth : Method) (c : Code) (ls : Array Slot), p.tables.exec = Jvm.exec → c.code = cc → c.maxLocals = maxL → meth.sig.returnType = ret → s.vm.findClass y.cls = some m.cls → (∀ w ∈ ws, w.before As.toArray s = true) → meth.locks = false → (y.name = "<init>" → meth.name = "<init>") → s.heap = H0 → KK D cA s → lv_has ls maxL (lv_args 0 As) →
      W p l e { frames := fr, cells := mc, slots := ms, locals := lo } s m As.toArray below meth c H0 [] 0 0 (MQ below (wrQ v D W0 W1 H0) As.toArray s mc ms (va_A W0 H0.size)) (F0 m 0 ls [])) : WR l y ws fr lo mc ms As D cA H0 v W0 W1 := by
  refine Met.ofW (cc := cc) (maxL := maxL) (ret := ret) hy hw ?_
  intro p e s m args below meth c s₁ B hml hv
  obtain ⟨rfl, rfl, hK⟩ := hv
  rw [lg_entry_eq]
  exact body p e s m below meth c _ B.exec B.bytes hml B.returns (findClass_of_methodNamed B.named) (atoms_spec B.pre) B.notSynchronized (fun h => (name_of_methodNamed B.named B.method).1.trans h) rfl hK (lv_entry As hlen)
section MYW
variable {p : Program} {l : Launch} {e : Env} {R : Room} {s : State} {m : MethodId} {args : Array Value} {below : List Frame} {meth : Method} {c : Code} {H H0 : Heap} {locs : List Loc} {cells slots : Nat} {Q : State → Prop}
variable {cc : ByteArray} {pc : Nat} {ls : Array Slot} {rest st0 : List Value} {a : Array Value} {D : va_G} {cA : ClassId}
theorem RO_zret {r v : Int32} {ty : FieldType} (hx : p.tables.exec = Jvm.exec) (hb : c.code = cc) (hr : meth.sig.returnType = some ty) (hlk : meth.locks = false) (hH : s.heap = H) (hdg : decode cc pc = .ok (.ireturn, 1)) (hn : narrow ty (.int v) = .int v) (e0 : v = r) : W p l e R s m args below meth c H [] 0 0 (MQ below (roQ (some (.int r)) H) args s 0 0 (fun _ => False)) (F0 m pc ls [.int v]) := by
  subst e0
  exact W.zret hx hb hr hn (fun t ht _ => ⟨rfl, ht⟩) (fun q hq => absurd hq List.not_mem_nil) hdg hlk
theorem RO_lret {r v : Int64} (hx : p.tables.exec = Jvm.exec) (hb : c.code = cc) (hr : meth.sig.returnType = some .long) (hlk : meth.locks = false) (hH : s.heap = H) (hdg : decode cc pc = .ok (.lreturn, 1)) (e0 : v = r) : W p l e R s m args below meth c H [] 0 0 (MQ below (roQ (some (.long r)) H) args s 0 0 (fun _ => False)) (F0 m pc ls [.long v]) := by
  subst e0
  exact W.lret hx hb hr (fun t ht _ => ⟨rfl, ht⟩) (fun q hq => absurd hq List.not_mem_nil) hdg hlk
theorem RO_dret {r v : UInt64} (hx : p.tables.exec = Jvm.exec) (hb : c.code = cc) (hr : meth.sig.returnType = some .double) (hlk : meth.locks = false) (hH : s.heap = H) (hdg : decode cc pc = .ok (.dreturn, 1)) (e0 : v = r) : W p l e R s m args below meth c H [] 0 0 (MQ below (roQ (some (.double r)) H) args s 0 0 (fun _ => False)) (F0 m pc ls [.double v]) := by
  subst e0
  exact W.dret hx hb hr (fun t ht _ => ⟨rfl, ht⟩) (fun q hq => absurd hq List.not_mem_nil) hdg hlk
theorem WR_end {W0 W1 : va_W} (hH : s.heap = H0) (hP : va_P D vwCl W1 H) (hS : va_S (va_A W0 H0.size) H0 H locs) {v : Option Value} (t : State) (ht : t.heap = H) (oc : Outcome) (ho : oc = .returned v) : wrQ v D W0 W1 H0 args s oc t := ⟨ho, by rw [ht]; exact hP, by rw [ht]; exact hS.1, fun q h1 h2 => by rw [ht]; exact hS.2.1 q h1 h2⟩
theorem WR_zret {W0 W1 : va_W} {A : Nat → Prop} (hAe : A = va_A W0 H0.size) {mc ms : Nat} {r v : Int32} {ty : FieldType} (hx : p.tables.exec = Jvm.exec) (hb : c.code = cc) (hr : meth.sig.returnType = some ty) (hlk : meth.locks = false) (hH : s.heap = H0) (hdg : decode cc pc = .ok (.ireturn, 1)) (hc : cells ≤ mc) (hs : slots ≤ ms) (hP : va_P D vwCl W1 H) (hS : va_S A H0 H locs) (hn : narrow ty (.int v) = .int v) (e0 : v = r) : W p l e R s m args below meth c H locs cells slots (MQ below (wrQ (some (.int r)) D W0 W1 H0) args s mc ms A) (F0 m pc ls [.int v]) := by
  subst e0
  subst hAe
  exact W.widen hc hs (W.zret hx hb hr hn (fun t ht _ => WR_end hH hP hS t ht _ rfl) hS.2.2 hdg hlk)
theorem WR_lret {W0 W1 : va_W} {A : Nat → Prop} (hAe : A = va_A W0 H0.size) {mc ms : Nat} {r v : Int64} (hx : p.tables.exec = Jvm.exec) (hb : c.code = cc) (hr : meth.sig.returnType = some .long) (hlk : meth.locks = false) (hH : s.heap = H0) (hdg : decode cc pc = .ok (.lreturn, 1)) (hc : cells ≤ mc) (hs : slots ≤ ms) (hP : va_P D vwCl W1 H) (hS : va_S A H0 H locs) (e0 : v = r) : W p l e R s m args below meth c H locs cells slots (MQ below (wrQ (some (.long r)) D W0 W1 H0) args s mc ms A) (F0 m pc ls [.long v]) := by
  subst e0
  subst hAe
  exact W.widen hc hs (W.lret hx hb hr (fun t ht _ => WR_end hH hP hS t ht _ rfl) hS.2.2 hdg hlk)
theorem WR_dret {W0 W1 : va_W} {A : Nat → Prop} (hAe : A = va_A W0 H0.size) {mc ms : Nat} {r v : UInt64} (hx : p.tables.exec = Jvm.exec) (hb : c.code = cc) (hr : meth.sig.returnType = some .double) (hlk : meth.locks = false) (hH : s.heap = H0) (hdg : decode cc pc = .ok (.dreturn, 1)) (hc : cells ≤ mc) (hs : slots ≤ ms) (hP : va_P D vwCl W1 H) (hS : va_S A H0 H locs) (e0 : v = r) : W p l e R s m args below meth c H locs cells slots (MQ below (wrQ (some (.double r)) D W0 W1 H0) args s mc ms A) (F0 m pc ls [.double v]) := by
  subst e0
  subst hAe
  exact W.widen hc hs (W.dret hx hb hr (fun t ht _ => WR_end hH hP hS t ht _ rfl) hS.2.2 hdg hlk)
theorem WR_vret {W0 W1 : va_W} {A : Nat → Prop} (hAe : A = va_A W0 H0.size) {mc ms : Nat} (hx : p.tables.exec = Jvm.exec) (hb : c.code = cc) (hr : meth.sig.returnType = none) (hlk : meth.locks = false) (hH : s.heap = H0) (hdg : decode cc pc = .ok (.return_, 1)) (hc : cells ≤ mc) (hs : slots ≤ ms) (hP : va_P D vwCl W1 H) (hS : va_S A H0 H locs) : W p l e R s m args below meth c H locs cells slots (MQ below (wrQ none D W0 W1 H0) args s mc ms A) (F0 m pc ls []) := by
  subst hAe
  exact W.widen hc hs (W.vret hx hb hr (fun t ht _ => WR_end hH hP hS t ht _ rfl) hS.2.2 hdg hlk)
/-- behind a call that reads: nothing has changed -/
theorem RO_go {v : Value} (hr : va_Run p l e R s m args below meth c H locs cells slots 0 0 (F0 m pc ls st0) rest (roQ (some v) H a) (fun _ => False)) (kk : W p l e R s m args below meth c H locs cells slots Q (F0 m (pc + 3) ls (v :: rest))) : W p l e R s m args below meth c H locs cells slots Q (F0 m pc ls st0) := by
  intro T hT X
  obtain ⟨v', st₀, t, T', L, h0, X', hL, e1, e2, ⟨hv, hp⟩, st⟩ := hr T hT X
  cases hv
  have hL0 : L = [] := by
    cases L with
    | nil => rfl
    | cons x xs => exact absurd (hL x List.mem_cons_self) id
  subst hL0
  rw [List.append_nil] at X'
  obtain ⟨t2, a1, b1⟩ := kk T' (e1.trans hp) X'
  exact ⟨t2, st t2 a1, b1⟩
/-- behind a call that writes: its cells as its end has them, the others as they were -/
theorem WR_go {A0 : Nat → Prop} {H00 : Heap} {ws W0 W1 ws' : va_W} {mc ms : Nat} {v : Option Value} (hr : va_Run p l e R s m args below meth c H locs cells slots mc ms (F0 m pc ls st0) rest (wrQ v D W0 W1 H a) (va_A W0 H.size)) (hP : va_P D vwCl ws H) (hD : va_D A0 ws) (hS : va_S A0 H00 H locs) (hA : ∀ q, H00.size ≤ q → A0 q) (isC isR : List Nat) (hC : isC.map (fun i => ws[i]?) = W0.map some) (hn : va_nd isR = true) (hdis : ∀ i ∈ isR, i ∉ isC)
    (perm : List Nat) (hsub : perm.filterMap (fun i => ((isR.filterMap (fun i => ws[i]?)) ++ W1)[i]?) = ws')
    (kk : ∀ (H1 : Heap) (locs1 : List Loc), va_P D vwCl ws' H1 → va_S A0 H00 H1 locs1 → H.size ≤ H1.size → W p l e R s m args below meth c H1 locs1 (cells + mc) (slots + ms) Q (F0 m (pc + 3) ls (v.toList ++ rest))) : W p l e R s m args below meth c H locs cells slots Q (F0 m pc ls st0) := by
  intro T hT X
  obtain ⟨v', st₀, t, T', L, h0, X', hL, e1, e2, ⟨hv, hp, hz, hk⟩, st⟩ := hr T hT X
  cases hv
  have hF := va_free (wc := W0) hD hS hA isC hC
  have hS1 : va_S A0 H00 T'.heap (locs ++ L) := ⟨Nat.le_trans hS.1 (by rw [e1]; exact hz), fun q h1 h2 => by rw [e1, hk q (Nat.lt_of_lt_of_le h1 hS.1) (fun z => h2 (hF q z))]; exact hS.2.1 q h1 h2, fun q hq => by
      rcases List.mem_append.mp hq with h | h
      · exact hS.2.2 q h
      · exact hF _ (hL q h)⟩
  have hR : ∀ (k : Nat) (q : Nat × va_E), (isR.filterMap (fun i => ws[i]?))[k]? = some q → ∃ i ∈ isR, ws[i]? = some q := by
    intro k q hq
    obtain ⟨i, h1, h2⟩ := List.mem_filterMap.mp (List.mem_of_getElem? hq)
    exact ⟨i, h1, h2⟩
  have hP1 : va_P D vwCl (isR.filterMap (fun i => ws[i]?)) T'.heap := by
    intro k q hq
    obtain ⟨i, hi, h2⟩ := hR k q hq
    refine (hP i q h2).kept ?_
    rw [e1]
    refine hk q.1 (hP i q h2).lt (fun h => ?_)
    rcases h with ⟨k2, e9, h⟩ | h
    · have h1 : (isC.map (fun i => ws[i]?))[k2]? = some (some (q.1, e9)) := by rw [hC, List.getElem?_map, h]; rfl
      rw [List.getElem?_map] at h1
      cases hj : isC[k2]? with
      | none => rw [hj] at h1; cases h1
      | some j =>
        rw [hj] at h1
        have h4 := Option.some.inj h1
        have hij := hD.1 i j q (q.1, e9) h2 h4 rfl
        subst hij
        exact hdis i hi (List.mem_of_getElem? hj)
    · exact absurd (hP i q h2).lt (by omega)
  obtain ⟨t2, a1, b1⟩ := kk T'.heap (locs ++ L) ((va_P.app hP1 (by rw [e1]; exact hp)).sub perm hsub) hS1 (by rw [e1]; exact hz) T' rfl X'
  exact ⟨t2, st t2 a1, b1⟩
theorem va_D.adr {A : Nat → Prop} {ws ws' : va_W} (h : va_D A ws) (e : ws'.map (fun q => q.1) = ws.map (fun q => q.1)) : va_D A ws' := by
  have key : ∀ (i : Nat) (p : Nat × va_E), ws'[i]? = some p → ∃ p2, ws[i]? = some p2 ∧ p2.1 = p.1 := by
    intro i p hp
    have h1 : (ws'.map (fun q => q.1))[i]? = some p.1 := by rw [List.getElem?_map, hp]; rfl
    rw [e, List.getElem?_map] at h1
    cases hw : ws[i]? with
    | none => rw [hw] at h1; cases h1
    | some x => rw [hw] at h1; exact ⟨x, rfl, Option.some.inj h1⟩
  refine ⟨fun i j p q hp hq hpq => ?_, fun k q hq => ?_⟩
  · obtain ⟨p2, a1, a2⟩ := key i p hp
    obtain ⟨q2, b1, b2⟩ := key j q hq
    exact h.1 i j p2 q2 a1 b1 (by rw [a2, b2, hpq])
  · obtain ⟨q2, b1, b2⟩ := key k q hq
    rw [← b2]
    exact h.2 k q2 b1
/-- branches over booleans and over small numbers -/
theorem my_ifeq_b {b : Bool} {off : Int} {tgt : Nat} (hx : p.tables.exec = Jvm.exec) (hb : c.code = cc) (hdg : decode cc pc = .ok (.ifCond .eq off, 3)) (ht : (pc : Int) + off = (tgt : Int)) (kt : b = false → W p l e R s m args below meth c H locs cells slots Q (F0 m tgt ls rest)) (kf : b = true → W p l e R s m args below meth c H locs cells slots Q (F0 m (pc + 3) ls rest)) : W p l e R s m args below meth c H locs cells slots Q (F0 m pc ls (.int (bI b) :: rest)) :=
  lv_if_eq hx hb hdg ht (fun h => kt (by cases b with | false => rfl | true => exact absurd h (by decide))) (fun h => kf (by cases b with | true => rfl | false => exact absurd rfl h))
theorem my_ifne_b {b : Bool} {off : Int} {tgt : Nat} (hx : p.tables.exec = Jvm.exec) (hb : c.code = cc) (hdg : decode cc pc = .ok (.ifCond .ne off, 3)) (ht : (pc : Int) + off = (tgt : Int)) (kt : b = true → W p l e R s m args below meth c H locs cells slots Q (F0 m tgt ls rest)) (kf : b = false → W p l e R s m args below meth c H locs cells slots Q (F0 m (pc + 3) ls rest)) : W p l e R s m args below meth c H locs cells slots Q (F0 m pc ls (.int (bI b) :: rest)) :=
  lv_if_ne hx hb hdg ht (fun h => kt (by cases b with | true => rfl | false => exact absurd rfl h)) (fun h => kf (by cases b with | false => rfl | true => exact absurd h (by decide)))
theorem my_geN {x y : Nat} {off : Int} {tgt : Nat} (hx : p.tables.exec = Jvm.exec) (hb : c.code = cc) (hdg : decode cc pc = .ok (.if_icmp .ge off, 3)) (ht : (pc : Int) + off = (tgt : Int)) (h1 : x < 2 ^ 31) (h2 : y < 2 ^ 31) (kt : y ≤ x → W p l e R s m args below meth c H locs cells slots Q (F0 m tgt ls rest)) (kf : x < y → W p l e R s m args below meth c H locs cells slots Q (F0 m (pc + 3) ls rest)) : W p l e R s m args below meth c H locs cells slots Q (F0 m pc ls (.int (nI y) :: .int (nI x) :: rest)) :=
  lv_icmp_ge hx hb hdg ht (fun h => kt ((nI_leI h2 h1).mp h)) (fun h => kf (Nat.lt_of_not_le (fun q => h ((nI_leI h2 h1).mpr q))))
theorem my_gtN {x y : Nat} {off : Int} {tgt : Nat} (hx : p.tables.exec = Jvm.exec) (hb : c.code = cc) (hdg : decode cc pc = .ok (.if_icmp .gt off, 3)) (ht : (pc : Int) + off = (tgt : Int)) (h1 : x < 2 ^ 31) (h2 : y < 2 ^ 31) (kt : y < x → W p l e R s m args below meth c H locs cells slots Q (F0 m tgt ls rest)) (kf : x ≤ y → W p l e R s m args below meth c H locs cells slots Q (F0 m (pc + 3) ls rest)) : W p l e R s m args below meth c H locs cells slots Q (F0 m pc ls (.int (nI y) :: .int (nI x) :: rest)) :=
  lv_icmp_gt hx hb hdg ht (fun h => kt ((nI_ltI h2 h1).mp h)) (fun h => kf (Nat.le_of_not_lt (fun q => h ((nI_ltI h2 h1).mpr q))))
theorem my_neN {x y : Nat} {off : Int} {tgt : Nat} (hx : p.tables.exec = Jvm.exec) (hb : c.code = cc) (hdg : decode cc pc = .ok (.if_icmp .ne off, 3)) (ht : (pc : Int) + off = (tgt : Int)) (h1 : x < 2 ^ 31) (h2 : y < 2 ^ 31) (kt : ¬ x = y → W p l e R s m args below meth c H locs cells slots Q (F0 m tgt ls rest)) (kf : x = y → W p l e R s m args below meth c H locs cells slots Q (F0 m (pc + 3) ls rest)) : W p l e R s m args below meth c H locs cells slots Q (F0 m pc ls (.int (nI y) :: .int (nI x) :: rest)) :=
  lv_icmp_ne hx hb hdg ht (fun h => kt (fun q => h (by rw [q]))) (fun h => kf ((nI_eq h1 h2).mp h))
theorem my_iald (hx : p.tables.exec = Jvm.exec) (hb : c.code = cc) (hK : KK D cA s) {ws : va_W} (hP : va_P D vwCl ws H) (q0 : Nat) {ad n : Nat} {f : Nat → Int32} (ha : ws[q0]? = some (ad, .inl (cA, n, .inl f))) {j : Nat} (hj : j < n) (hn : n < 2 ^ 31) (hdg : decode cc pc = .ok (.iaload, 1)) (kk : W p l e R s m args below meth c H locs cells slots Q (F0 m (pc + 1) ls (.int (f j) :: rest))) : W p l e R s m args below meth c H locs cells slots Q (F0 m pc ls (.int (nI j) :: .ref ad :: rest)) := by
  refine va_iald hx hb hK.1 hP q0 0 ha rfl (vp_in_nI hj hn) hdg ?_
  rw [nI_clamp (Nat.lt_trans hj hn)]
  exact kk
theorem my_iast {A : Nat → Prop} {H00 : Heap} (hx : p.tables.exec = Jvm.exec) (hb : c.code = cc) (hK : KK D cA s) {ws : va_W} (hP : va_P D vwCl ws H) (hD : va_D A ws) (hS : va_S A H00 H locs) (q0 : Nat) {ad n : Nat} {f : Nat → Int32} (ha : ws[q0]? = some (ad, .inl (cA, n, .inl f))) {j : Nat} {x : Int32} (hj : j < n) (hn : n < 2 ^ 31) (hdg : decode cc pc = .ok (.iastore, 1))
    (kk : ∀ (H1 : Heap) (locs1 : List Loc), va_P D vwCl (ws.set q0 (ad, .inl (cA, n, .inl (upd f j x)))) H1 → va_D A (ws.set q0 (ad, .inl (cA, n, .inl (upd f j x)))) → va_S A H00 H1 locs1 → W p l e R s m args below meth c H1 locs1 cells slots Q (F0 m (pc + 1) ls rest)) : W p l e R s m args below meth c H locs cells slots Q (F0 m pc ls (.int x :: .int (nI j) :: .ref ad :: rest)) := by
  refine va_iast hx hb hK.1 hP hD hS q0 0 ha rfl (vp_in_nI hj hn) hdg ?_
  rw [nI_clamp (Nat.lt_trans hj hn)]
  exact kk
theorem my_iaddN {x y : Nat} (hx : p.tables.exec = Jvm.exec) (hb : c.code = cc) (hdg : decode cc pc = .ok (.iadd, 1)) (kk : W p l e R s m args below meth c H locs cells slots Q (F0 m (pc + 1) ls (.int (nI (x + y)) :: rest))) : W p l e R s m args below meth c H locs cells slots Q (F0 m pc ls (.int (nI y) :: .int (nI x) :: rest)) :=
  lv_iadd hx hb hdg (by rw [nI_add]; exact kk)
theorem my_imulN {x y : Nat} (hx : p.tables.exec = Jvm.exec) (hb : c.code = cc) (hdg : decode cc pc = .ok (.imul, 1)) (kk : W p l e R s m args below meth c H locs cells slots Q (F0 m (pc + 1) ls (.int (nI (x * y)) :: rest))) : W p l e R s m args below meth c H locs cells slots Q (F0 m pc ls (.int (nI y) :: .int (nI x) :: rest)) :=
  lv_imul hx hb hdg (by rw [pk_mul]; exact kk)
theorem my_isubN {x y : Nat} (hx : p.tables.exec = Jvm.exec) (hb : c.code = cc) (hdg : decode cc pc = .ok (.isub, 1)) (h : y ≤ x) (kk : W p l e R s m args below meth c H locs cells slots Q (F0 m (pc + 1) ls (.int (nI (x - y)) :: rest))) : W p l e R s m args below meth c H locs cells slots Q (F0 m pc ls (.int (nI y) :: .int (nI x) :: rest)) :=
  lv_isub hx hb hdg (by rw [pk_sub h]; exact kk)
end MYW
end
section
/-! ===== Int32 by its bits: bt x i ===== -/
def bt (x : Int32) (i : Nat) : Bool := x.toBitVec.getLsbD i
theorem b_ext {x y : Int32} (h : ∀ i, i < 32 → bt x i = bt y i) : x = y := Int32.toBitVec_inj.mp (BitVec.eq_of_getLsbD_eq (fun i hi => h i hi))
theorem b_or (x y : Int32) (i : Nat) : bt (x ||| y) i = (bt x i || bt y i) := by unfold bt; rw [Int32.toBitVec_or, BitVec.getLsbD_or]
theorem b_and (x y : Int32) (i : Nat) : bt (x &&& y) i = (bt x i && bt y i) := by unfold bt; rw [Int32.toBitVec_and, BitVec.getLsbD_and]
theorem b_xor (x y : Int32) (i : Nat) : bt (x ^^^ y) i = (bt x i ^^ bt y i) := by unfold bt; rw [Int32.toBitVec_xor, BitVec.getLsbD_xor]
theorem b_big {x : Int32} {i : Nat} (h : 32 ≤ i) : bt x i = false := BitVec.getLsbD_of_ge _ _ h
theorem b_255 (i : Nat) : bt 255 i = decide (i < 8) := by
  rcases Nat.lt_or_ge i 32 with h | h
  · exact (by decide +kernel : ∀ i, i < 32 → bt 255 i = decide (i < 8)) i h
  · rw [b_big h, decide_eq_false (by omega)]
theorem b_65535 (i : Nat) : bt 65535 i = decide (i < 16) := by
  rcases Nat.lt_or_ge i 32 with h | h
  · exact (by decide +kernel : ∀ i, i < 32 → bt 65535 i = decide (i < 16)) i h
  · rw [b_big h, decide_eq_false (by omega)]
theorem b_m1 : ∀ i, i < 32 → bt (-1) i = true := by decide +kernel
theorem b_0 (i : Nat) : bt 0 i = false := BitVec.getLsbD_zero
theorem s_l : ∀ n, n < 32 → ((nI n &&& 31).toBitVec.smod 32).toNat = n := by decide +kernel
theorem s_u : ∀ n, n < 32 → (((nI n).toUInt32 &&& Int32.toUInt32 31).toBitVec % 32).toNat = n := by decide +kernel
theorem b_shl (n : Nat) (hn : n < 32) (x : Int32) {i : Nat} (hi : i < 32) : bt (x <<< (nI n &&& 31)) i = (decide (n ≤ i) && bt x (i - n)) := by
  unfold bt
  rw [Int32.toBitVec_shiftLeft]
  show (x.toBitVec <<< ((nI n &&& 31).toBitVec.smod 32).toNat).getLsbD i = _
  rw [s_l n hn, BitVec.getLsbD_shiftLeft]
  rcases Nat.lt_or_ge i n with h | h
  · simp [h, Nat.not_le.mpr h]
  · simp [hi, h, Nat.not_lt.mpr h]
theorem b_ushr (n : Nat) (hn : n < 32) (x : Int32) (i : Nat) : bt ((x.toUInt32 >>> ((nI n).toUInt32 &&& Int32.toUInt32 31)).toInt32) i = bt x (n + i) := by
  show (x.toUInt32 >>> ((nI n).toUInt32 &&& Int32.toUInt32 31)).toBitVec.getLsbD i = x.toUInt32.toBitVec.getLsbD (n + i)
  rw [UInt32.toBitVec_shiftRight]
  show (x.toUInt32.toBitVec >>> (((nI n).toUInt32 &&& Int32.toUInt32 31).toBitVec % 32).toNat).getLsbD i = _
  rw [s_u n hn, BitVec.getLsbD_ushiftRight]
theorem b_sshr (n : Nat) (hn : n < 32) (x : Int32) {i : Nat} (hi : i < 32) : bt (x >>> (nI n &&& 31)) i = if n + i < 32 then bt x (n + i) else bt x 31 := by
  unfold bt
  rw [Int32.toBitVec_shiftRight]
  show (x.toBitVec.sshiftRight ((nI n &&& 31).toBitVec.smod 32).toNat).getLsbD i = _
  rw [s_l n hn, BitVec.getLsbD_sshiftRight, BitVec.msb_eq_getLsbD_last]
  simp [hi]
theorem b_shl8 (x : Int32) {i : Nat} (hi : i < 32) : bt (x <<< ((8 : Int32) &&& 31)) i = (decide (8 ≤ i) && bt x (i - 8)) := b_shl 8 (by omega) x hi
theorem b_shl16 (x : Int32) {i : Nat} (hi : i < 32) : bt (x <<< ((16 : Int32) &&& 31)) i = (decide (16 ≤ i) && bt x (i - 16)) := b_shl 16 (by omega) x hi
theorem b_shl24 (x : Int32) {i : Nat} (hi : i < 32) : bt (x <<< ((24 : Int32) &&& 31)) i = (decide (24 ≤ i) && bt x (i - 24)) := b_shl 24 (by omega) x hi
theorem b_sshr8 (x : Int32) {i : Nat} (hi : i < 32) : bt (x >>> ((8 : Int32) &&& 31)) i = if 8 + i < 32 then bt x (8 + i) else bt x 31 := b_sshr 8 (by omega) x hi
/-! sets of layers, folds over layers -/
theorem hasZ {x : Int32} {j : Nat} (hj : j < 32) : ((x >>> (nI j &&& 31)) &&& 1) = 0 ↔ bt x j = false := by
  constructor
  · intro h
    have h1 : bt ((x >>> (nI j &&& 31)) &&& 1) 0 = false := by rw [h]; exact b_0 0
    rw [b_and, b_sshr j hj x (by omega)] at h1
    have h2 : bt 1 0 = true := by decide
    rw [h2] at h1
    simpa [hj] using h1
  · intro h
    refine b_ext (fun i hi => ?_)
    rw [b_and, b_0]
    by_cases hi0 : i = 0
    · subst hi0
      rw [b_sshr j hj x (by omega)]
      simp [hj, h]
    · have h2 : ∀ i, i < 32 → i ≠ 0 → bt 1 i = false := by decide
      rw [h2 i hi hi0]
      simp
theorem hasO {x : Int32} {j : Nat} (hj : j < 32) : ((x >>> (nI j &&& 31)) &&& 1) = bI (bt x j) := by
  cases h : bt x j with
  | false => rw [(hasZ hj).mpr h]; rfl
  | true =>
    refine b_ext (fun i hi => ?_)
    rw [b_and]
    by_cases hi0 : i = 0
    · subst hi0
      rw [b_sshr j hj x (by omega)]
      simp [hj, h]
      decide
    · have h2 : ∀ i, i < 32 → i ≠ 0 → bt 1 i = false := by decide
      rw [h2 i hi hi0]
      simp only [Bool.and_false]
      exact (h2 i hi hi0).symm
def imax (x y : Int32) : Int32 := if x < y then y else x
def imin (x y : Int32) : Int32 := if y < x then y else x
def ct (p : Nat → Bool) : Nat → Nat
  | 0 => 0
  | k + 1 => ct p k + (if p k then 1 else 0)
def sI (f : Nat → Int32) : Nat → Int32
  | 0 => 0
  | k + 1 => sI f k + f k
def small (x : Int32) : Prop := ∀ i, 14 ≤ i → bt x i = false
def gF (fi : Nat → Int32) (set : Int32) : Nat → Int32
  | 0 => 0
  | k + 1 => if bt set k then imax (gF fi set k) (fi k) else gF fi set k
def lL (la : Nat → Int32) (set : Int32) : Nat → Int32
  | 0 => 9999
  | k + 1 => if bt set k then imin (lL la set k) (la k) else lL la set k
def sS (mn : Nat → Int32) (set : Int32) (kd : Nat) : Nat → Int32
  | 0 => 0
  | k + 1 => if bt set k then sS mn set kd k + mn (k * 4 + kd) else sS mn set kd k
/-- the first below m of which p holds, or m -/
def fnd (p : Nat → Bool) : Nat → Nat
  | 0 => 0
  | n + 1 => if fnd p n < n then fnd p n else if p n then n else n + 1
theorem fnd_le (p : Nat → Bool) : ∀ n, fnd p n ≤ n
  | 0 => Nat.le_refl 0
  | n + 1 => by
    have ih := fnd_le p n
    unfold fnd
    split
    · omega
    · split <;> omega
theorem fnd_no {p : Nat → Bool} : ∀ {n k : Nat}, k ≤ n → (∀ j, j < k → p j = false) → k ≤ fnd p n
  | 0, k, hk, _ => by have := Nat.le_zero.mp hk; subst this; exact Nat.zero_le _
  | n + 1, k, hk, h => by
    unfold fnd
    by_cases hkn : k ≤ n
    · have ih := fnd_no hkn h
      split
      · exact ih
      · split <;> omega
    · have e : k = n + 1 := by omega
      subst e
      have ih := fnd_no (Nat.le_refl n) (fun j hj => h j (by omega))
      rw [if_neg (by omega), if_neg (by rw [h n (by omega)]; decide)]
      exact Nat.le_refl _
theorem fnd_yes {p : Nat → Bool} : ∀ {n k : Nat}, k < n → p k = true → fnd p n ≤ k
  | 0, k, hk, _ => absurd hk (Nat.not_lt_zero k)
  | n + 1, k, hk, h => by
    unfold fnd
    by_cases hkn : k < n
    · have ih := fnd_yes hkn h
      rw [if_pos (by omega)]
      exact ih
    · have e : k = n := by omega
      subst e
      split
      · omega
      · first | exact Nat.le_refl _ | (rw [if_pos h]; exact Nat.le_refl _)
theorem fnd_at {p : Nat → Bool} {n k : Nat} (hk : k ≤ n) (h : ∀ j, j < k → p j = false) (h2 : k < n → p k = true) : fnd p n = k := by
  have a := fnd_no hk h
  rcases Nat.lt_or_ge k n with q | q
  · have b := fnd_yes q (h2 q)
    omega
  · have := fnd_le p n
    omega
/-- what is left, and of which nothing that is left lies below -/
def fre (be : Nat → Int32) (left : Int32) (j : Nat) : Bool := bt left j && decide (be j &&& left = 0)
def pO (ph : Nat → Int32) (lower : Int32) : Nat → Int32
  | 0 => 0
  | k + 1 => if bt lower k then imax (pO ph lower k) (ph k + 1) else pO ph lower k
def phs (ph : Nat → Int32) : Nat → Int32
  | 0 => 0
  | k + 1 => imax (phs ph k) (ph k + 1)
def prs (be : Nat → Int32) : Nat → Nat
  | 0 => 0
  | k + 1 => prs be k + ct (bt (be k)) 14
def prM (be : Nat → Int32) (upper lower : Int32) : Nat → Nat
  | 0 => 0
  | k + 1 => if bt upper k then prM be upper lower k + ct (bt (lower &&& (be k ^^^ (-1)))) 14 else prM be upper lower k
def srt (al : Nat → Int32) : Nat → Nat
  | 0 => 0
  | k + 1 => if al k &&& (((1 : Int32) <<< (nI k &&& 31)) - 1) = 0 then srt al k + 1 else srt al k
/-- below k, those of the set have more added -/
def lkU (f : Nat → Int32) (set add : Int32) (k : Nat) : Nat → Int32 := fun j => if decide (j < k) && bt set j then f j ||| add else f j
def stU (f : Nat → Int32) (set : Int32) (k : Nat) : Nat → Int32 := fun j => if decide (j < k) && bt set j then set else f j
theorem lkU_0 {f : Nat → Int32} {set add : Int32} : lkU f set add 0 = f := by funext j; simp [lkU]
theorem stU_0 {f : Nat → Int32} {set : Int32} : stU f set 0 = f := by funext j; simp [stU]
theorem lkU_f {f : Nat → Int32} {set add : Int32} {k : Nat} (h : bt set k = false) : lkU f set add k = lkU f set add (k + 1) := by
  funext j
  unfold lkU
  by_cases hj : j = k
  · subst hj; simp [h]
  · have : decide (j < k + 1) = decide (j < k) := by simp; omega
    rw [this]
theorem lkU_t {f : Nat → Int32} {set add : Int32} {k : Nat} (h : bt set k = true) : upd (lkU f set add k) k (lkU f set add k k ||| add) = lkU f set add (k + 1) := by
  funext j
  unfold upd lkU
  by_cases hj : j = k
  · subst hj; simp [h]
  · have : decide (j < k + 1) = decide (j < k) := by simp; omega
    rw [if_neg hj, this]
theorem stU_f {f : Nat → Int32} {set : Int32} {k : Nat} (h : bt set k = false) : stU f set k = stU f set (k + 1) := by
  funext j
  unfold stU
  by_cases hj : j = k
  · subst hj; simp [h]
  · have : decide (j < k + 1) = decide (j < k) := by simp; omega
    rw [this]
theorem stU_t {f : Nat → Int32} {set : Int32} {k : Nat} (h : bt set k = true) : upd (stU f set k) k set = stU f set (k + 1) := by
  funext j
  unfold upd stU
  by_cases hj : j = k
  · subst hj; simp [h]
  · have : decide (j < k + 1) = decide (j < k) := by simp; omega
    rw [if_neg hj, this]
/-- the arranging: what is left behind k places, the next one, the order, the phases -/
def arL (N : Nat) (be : Nat → Int32) : Nat → Int32
  | 0 => ((1 : Int32) <<< (nI N &&& 31)) - 1
  | k + 1 => arL N be k &&& (((1 : Int32) <<< (nI (fnd (fre be (arL N be k)) (N - 1)) &&& 31)) ^^^ (-1))
def arN (N : Nat) (be : Nat → Int32) (k : Nat) : Nat := fnd (fre be (arL N be k)) (N - 1)
def arO (N : Nat) (be od : Nat → Int32) : Nat → Nat → Int32
  | 0 => od
  | k + 1 => upd (arO N be od k) k (nI (arN N be k))
def arP (N : Nat) (be ph : Nat → Int32) : Nat → Nat → Int32
  | 0 => ph
  | k + 1 => upd (arP N be ph k) (arN N be k) (pO (arP N be ph k) (be (arN N be k)) N)
/-- below k those of the other row -/
def cpF (f g : Nat → Int32) (k : Nat) : Nat → Int32 := fun j => if j < k then g j else f j
theorem cpF_0 {f g : Nat → Int32} : cpF f g 0 = f := by funext j; simp [cpF]
theorem cpF_s {f g : Nat → Int32} {k : Nat} : upd (cpF f g k) k (g k) = cpF f g (k + 1) := by
  funext j
  unfold upd cpF
  by_cases hj : j = k
  · subst hj; simp
  · by_cases h2 : j < k
    · rw [if_neg hj, if_pos h2, if_pos (by omega)]
    · rw [if_neg hj, if_neg h2, if_neg (by omega)]
/-- how many a small set has, as the JDK counts -/
def bcI (x : Int32) : Int32 :=
  let a := x - ((x.toUInt32 >>> ((1 : Int32).toUInt32 &&& Int32.toUInt32 31)).toInt32 &&& 1431655765)
  let b := (a &&& 858993459) + ((a.toUInt32 >>> ((2 : Int32).toUInt32 &&& Int32.toUInt32 31)).toInt32 &&& 858993459)
  let c := (b + (b.toUInt32 >>> ((4 : Int32).toUInt32 &&& Int32.toUInt32 31)).toInt32) &&& 252645135
  let d := c + (c.toUInt32 >>> ((8 : Int32).toUInt32 &&& Int32.toUInt32 31)).toInt32
  let g := d + (d.toUInt32 >>> ((16 : Int32).toUInt32 &&& Int32.toUInt32 31)).toInt32
  g &&& 63
theorem small_and {x y : Int32} (h : small x) : small (x &&& y) := fun i hi => by rw [b_and, h i hi]; rfl
theorem small_or {x y : Int32} (h : small x) (h2 : small y) : small (x ||| y) := fun i hi => by rw [b_or, h i hi, h2 i hi]; rfl
theorem bc_small {x : Int32} (h : small x) : bcI x = nI (ct (bt x) 14) := by
  sorry
end
section
theorem fa_lt (a b : Int32) : a < b ↔ a.toInt < b.toInt := Int32.lt_iff_toInt_lt
theorem fa_le (a b : Int32) : a ≤ b ↔ a.toInt ≤ b.toInt := Int32.le_iff_toInt_le
theorem fa_eq (a b : Int32) : a = b ↔ a.toInt = b.toInt := Int32.toInt_inj.symm
theorem fa_lt64 (a b : Int64) : a < b ↔ a.toInt < b.toInt := Int64.lt_iff_toInt_lt
theorem fa_le64 (a b : Int64) : a ≤ b ↔ a.toInt ≤ b.toInt := Int64.le_iff_toInt_le
theorem fa_eq64 (a b : Int64) : a = b ↔ a.toInt = b.toInt := Int64.toInt_inj.symm
/-- a comparison of two ints taken as longs -/
theorem fa_wide_lt (a b : Int32) : a.toInt64 < b.toInt64 ↔ a < b := by rw [fa_lt64, fa_lt, Int32.toInt_toInt64, Int32.toInt_toInt64]
theorem fa_wide_le (a b : Int32) : a.toInt64 ≤ b.toInt64 ↔ a ≤ b := by rw [fa_le64, fa_le, Int32.toInt_toInt64, Int32.toInt_toInt64]
theorem fa_wide_eq (a b : Int32) : a.toInt64 = b.toInt64 ↔ a = b := by rw [fa_eq64, fa_eq, Int32.toInt_toInt64, Int32.toInt_toInt64]
/-- one strict comparison gives all the others -/
theorem fa_of_lt {a b : Int32} (h : a < b) : a ≤ b ∧ ¬ b ≤ a ∧ ¬ b < a ∧ a ≠ b ∧ b ≠ a := by
  rw [fa_lt] at h
  refine ⟨?_, ?_, ?_, ?_, ?_⟩
  · rw [fa_le]; omega
  · rw [fa_le]; omega
  · rw [fa_lt]; omega
  · intro e; rw [fa_eq] at e; omega
  · intro e; rw [fa_eq] at e; omega
theorem fa_of_nlt {a b : Int32} (h : ¬ a < b) : b ≤ a := by
  rw [fa_lt] at h
  rw [fa_le]
  omega
theorem fa_of_nle {a b : Int32} (h : ¬ a ≤ b) : b < a := by
  rw [fa_le] at h
  rw [fa_lt]
  omega
theorem fa_le_ne {a b : Int32} (h : a ≤ b) (h2 : a ≠ b) : a < b := by
  rw [fa_le] at h
  rw [fa_lt]
  have h3 : a.toInt ≠ b.toInt := fun e => h2 ((fa_eq a b).mpr e)
  omega
theorem fa_three (a b : Int32) : a < b ∨ a = b ∨ b < a := by
  rw [fa_lt, fa_lt, fa_eq]
  omega
theorem fa_trans {a b c : Int32} (h : a < b) (h2 : b ≤ c) : a < c := by
  rw [fa_lt] at *
  rw [fa_le] at h2
  omega
/-! what CairnShells answers, in words of its state: N layers; al, be, to: those that are the same, below, above; ph the phases; mn the finds; bu, fi, la the hearths -/
def fY (al be fi : Nat → Int32) (j : Nat) : Int32 := gF fi (al j ||| be j) 14
def lY (al to la : Nat → Int32) (j : Nat) : Int32 := lL la (al j ||| to j) 14
def dbt (al be to fi la : Nat → Int32) (j : Nat) : Bool := decide (lY al to la j < fY al be fi j)
def wgt (m c b t : Int32) : Nat → Int32
  | 0 => 3 * m + t
  | 1 => 2 * c + b / 2
  | 2 => 2 * b + c
  | _ => 4 * t + m
def seM (m c b t : Int32) : Nat → Int32
  | 0 => 0
  | k + 1 => if seM m c b t k < wgt m c b t k then wgt m c b t k else seM m c b t k
def seB (m c b t : Int32) : Nat → Int32
  | 0 => -1
  | k + 1 => if seM m c b t k < wgt m c b t k then nI k else seB m c b t k
def ssn (mn : Nat → Int32) (set : Int32) : Int32 := seB (sS mn set 0 14) (sS mn set 1 14) (sS mn set 2 14) (sS mn set 3 14) 4
def tolV (N : Nat) (al be to ph mn : Nat → Int32) (bu : Int32) (fi la : Nat → Int32) (j : Nat) : Nat → Int32
  | 0 => fY al be fi j
  | 1 => lY al to la j
  | 2 => bI (dbt al be to fi la j)
  | 3 => ph j
  | 4 => nI (ct (bt (be j)) 14)
  | 5 => nI (ct (bt (to j)) 14)
  | 6 => nI (ct (bt (al j)) 14)
  | 7 => ssn mn (al j)
  | _ => bI (bt bu j)
def couV (N : Nat) (al be to ph mn : Nat → Int32) (bu : Int32) (fi la : Nat → Int32) : Nat → Int32
  | 0 => nI N
  | 1 => phs ph N
  | 2 => nI (ct (dbt al be to fi la) N)
  | 3 => nI (ct (bt bu) 14)
  | 4 => nI (prs be N)
  | 5 => nI (srt al N)
  | _ => sI mn 56
def mxT (f : Nat → Int32) (d : Int64) : Nat → Int64
  | 0 => d
  | k + 1 => mxT f d k * 31 + (f k).toInt64
def mxL (N : Nat) (al be to ph mn : Nat → Int32) (bu : Int32) (fi la : Nat → Int32) (j : Nat) (d : Int64) : Int64 :=
  mxT (fun kd => sS mn (al j) kd 14) (mxT (tolV N al be to ph mn bu fi la j) d 9) 4 * 31 + (be j).toInt64
def mxN (N : Nat) (al be to ph mn : Nat → Int32) (bu : Int32) (fi la : Nat → Int32) (d : Int64) : Nat → Int64
  | 0 => d
  | k + 1 => mxL N al be to ph mn bu fi la k (mxN N al be to ph mn bu fi la d k)
def digV (N : Nat) (al be to od ph mn : Nat → Int32) (bu : Int32) (fi la : Nat → Int32) : Int64 :=
  mxN N al be to ph mn bu fi la (mxT od (mxT (couV N al be to ph mn bu fi la) 1361 7) N) N
def meanV (N : Nat) (ph : Nat → Int32) : UInt64 := if nI N = 0 then FP.dconst0 else FP.ddiv (FP.i2d (sI ph N)) (FP.i2d (nI N))
theorem nonan (x : Int32) {y : Int32} (h : ¬ y = 0) : vf_n64 (FP.ddiv (FP.i2d x) (FP.i2d y)) := by
  have h1 : FP.Core.dIsNaN (FP.Core.ddiv (FP.Core.i2d x) (FP.Core.i2d y)) = false := FP.Core.ddiv_out (FP.Core.i2d_fin x).notNaN (FP.Core.i2d_fin y) (fun q => FP.Core.i2d_ne_zero h ((FP.Core.zero_bits2 _).mp q))
  have h2 : ¬ 9218868437227405312 < (FP.Core.ddiv (FP.Core.i2d x) (FP.Core.i2d y)).toNat % 2 ^ 63 := fun q => by rw [(FP.Core.isNaN_bits _).mpr q] at h1; cases h1
  show (FP.Core.ddiv (FP.Core.i2d x) (FP.Core.i2d y)) &&& 0x7fffffffffffffff ≤ 0x7ff0000000000000
  rw [UInt64.le_iff_toNat_le, UInt64.toNat_and]
  show (FP.Core.ddiv (FP.Core.i2d x) (FP.Core.i2d y)).toNat &&& (2 ^ 63 - 1) ≤ 9218868437227405312
  rw [Nat.and_two_pow_sub_one_eq_mod]
  omega
end
section
set_option maxHeartbeats 4000000 in
set_option maxRecDepth 100000 in
/-- Integer.bitCount, as its instructions say -/
theorem c_J6_bitCount_0f7a4 (l : Launch) {D : va_G} {cA : ClassId} {H0 : Heap}  (x : Int32) : RO l yJ6_bitCount_0f7a4 wsJ6_bitCount_0f7a4 0 0 [.int x] D cA H0 (some (.int (bcI x))) := by
  refine RO_of (cc := cJ6_bitCount_0f7a4) (maxL := 1) (ret := (some .int)) (by decide) rfl (Nat.le_of_ble_eq_true rfl) ?_
  intro p e s m below meth c ls hx hb hml hr hown hts hlk hH hK hl
  have hown : s.vm.findClass RJ6 = some m.cls := hown
  have hl : lv_has ls 1 [(0, .int x)] := hl
  refine lv_iload_n hx hb dJ6_bitCount_0f7a4_0 rfl (lv_at hl 0 rfl) ?_
  refine lv_iload_n hx hb dJ6_bitCount_0f7a4_1 rfl (lv_at hl 0 rfl) ?_
  refine lv_iconst (v := 1) hx hb dJ6_bitCount_0f7a4_2 (by decide) ?_
  refine lv_iushr (v := ((x : Int32).toUInt32 >>> ((1 : Int32).toUInt32 &&& Int32.toUInt32 31)).toInt32) hx hb dJ6_bitCount_0f7a4_3 rfl ?_
  refine lv_ldcw (v := 1431655765) hx hb hown (hts (.constant RJ6 265 (1431655765)) (by decide +kernel)) dJ6_bitCount_0f7a4_4 ?_
  refine lv_iand hx hb dJ6_bitCount_0f7a4_7 ?_
  refine lv_isub hx hb dJ6_bitCount_0f7a4_8 ?_
  refine lv_topi (fun a1 ea1 => ?_)
  refine lv_istore_n (lv' := [(0, .int a1)]) hx hb dJ6_bitCount_0f7a4_9 rfl hl (by decide) rfl (fun ls hl => ?_)
  refine lv_iload_n hx hb dJ6_bitCount_0f7a4_10 rfl (lv_at hl 0 rfl) ?_
  refine lv_ldcw (v := 858993459) hx hb hown (hts (.constant RJ6 266 (858993459)) (by decide +kernel)) dJ6_bitCount_0f7a4_11 ?_
  refine lv_iand hx hb dJ6_bitCount_0f7a4_14 ?_
  refine lv_iload_n hx hb dJ6_bitCount_0f7a4_15 rfl (lv_at hl 0 rfl) ?_
  refine lv_iconst (v := 2) hx hb dJ6_bitCount_0f7a4_16 (by decide) ?_
  refine lv_iushr (v := ((a1 : Int32).toUInt32 >>> ((2 : Int32).toUInt32 &&& Int32.toUInt32 31)).toInt32) hx hb dJ6_bitCount_0f7a4_17 rfl ?_
  refine lv_ldcw (v := 858993459) hx hb hown (hts (.constant RJ6 266 (858993459)) (by decide +kernel)) dJ6_bitCount_0f7a4_18 ?_
  refine lv_iand hx hb dJ6_bitCount_0f7a4_21 ?_
  refine lv_iadd hx hb dJ6_bitCount_0f7a4_22 ?_
  refine lv_topi (fun a2 ea2 => ?_)
  refine lv_istore_n (lv' := [(0, .int a2)]) hx hb dJ6_bitCount_0f7a4_23 rfl hl (by decide) rfl (fun ls hl => ?_)
  refine lv_iload_n hx hb dJ6_bitCount_0f7a4_24 rfl (lv_at hl 0 rfl) ?_
  refine lv_iload_n hx hb dJ6_bitCount_0f7a4_25 rfl (lv_at hl 0 rfl) ?_
  refine lv_iconst (v := 4) hx hb dJ6_bitCount_0f7a4_26 (by decide) ?_
  refine lv_iushr (v := ((a2 : Int32).toUInt32 >>> ((4 : Int32).toUInt32 &&& Int32.toUInt32 31)).toInt32) hx hb dJ6_bitCount_0f7a4_27 rfl ?_
  refine lv_iadd hx hb dJ6_bitCount_0f7a4_28 ?_
  refine lv_ldcw (v := 252645135) hx hb hown (hts (.constant RJ6 267 (252645135)) (by decide +kernel)) dJ6_bitCount_0f7a4_29 ?_
  refine lv_iand hx hb dJ6_bitCount_0f7a4_32 ?_
  refine lv_topi (fun a3 ea3 => ?_)
  refine lv_istore_n (lv' := [(0, .int a3)]) hx hb dJ6_bitCount_0f7a4_33 rfl hl (by decide) rfl (fun ls hl => ?_)
  refine lv_iload_n hx hb dJ6_bitCount_0f7a4_34 rfl (lv_at hl 0 rfl) ?_
  refine lv_iload_n hx hb dJ6_bitCount_0f7a4_35 rfl (lv_at hl 0 rfl) ?_
  refine lv_bipush (v := 8) hx hb dJ6_bitCount_0f7a4_36 (by decide) ?_
  refine lv_iushr (v := ((a3 : Int32).toUInt32 >>> ((8 : Int32).toUInt32 &&& Int32.toUInt32 31)).toInt32) hx hb dJ6_bitCount_0f7a4_38 rfl ?_
  refine lv_iadd hx hb dJ6_bitCount_0f7a4_39 ?_
  refine lv_topi (fun a4 ea4 => ?_)
  refine lv_istore_n (lv' := [(0, .int a4)]) hx hb dJ6_bitCount_0f7a4_40 rfl hl (by decide) rfl (fun ls hl => ?_)
  refine lv_iload_n hx hb dJ6_bitCount_0f7a4_41 rfl (lv_at hl 0 rfl) ?_
  refine lv_iload_n hx hb dJ6_bitCount_0f7a4_42 rfl (lv_at hl 0 rfl) ?_
  refine lv_bipush (v := 16) hx hb dJ6_bitCount_0f7a4_43 (by decide) ?_
  refine lv_iushr (v := ((a4 : Int32).toUInt32 >>> ((16 : Int32).toUInt32 &&& Int32.toUInt32 31)).toInt32) hx hb dJ6_bitCount_0f7a4_45 rfl ?_
  refine lv_iadd hx hb dJ6_bitCount_0f7a4_46 ?_
  refine lv_topi (fun a5 ea5 => ?_)
  refine lv_istore_n (lv' := [(0, .int a5)]) hx hb dJ6_bitCount_0f7a4_47 rfl hl (by decide) rfl (fun ls hl => ?_)
  refine lv_iload_n hx hb dJ6_bitCount_0f7a4_48 rfl (lv_at hl 0 rfl) ?_
  refine lv_bipush (v := 63) hx hb dJ6_bitCount_0f7a4_49 (by decide) ?_
  refine lv_iand hx hb dJ6_bitCount_0f7a4_51 ?_
  exact RO_zret hx hb hr hlk hH dJ6_bitCount_0f7a4_52 (by rfl) (by subst ea5; subst ea4; subst ea3; subst ea2; subst ea1; rfl)
theorem c_bc (l : Launch) {D : va_G} {cA : ClassId} {H0 : Heap} (x : Int32) (hs : small x) : RO l yJ6_bitCount_0f7a4 wsJ6_bitCount_0f7a4 0 0 [.int x] D cA H0 (some (.int (nI (ct (bt x) 14)))) := by
  rw [← bc_small hs]
  exact c_J6_bitCount_0f7a4 l x
set_option maxHeartbeats 4000000 in
set_option maxRecDepth 100000 in
theorem c_X3_has (l : Launch) {D : va_G} {cA : ClassId} {H0 : Heap}  (x : Int32) (j : Nat) (hj : j < 32) : RO l yX3_has wsX3_has 0 0 [.int x, .int (nI j)] D cA H0 (some (.int (bI (bt x j)))) := by
  refine RO_of (cc := cX3_has) (maxL := 2) (ret := (some .boolean)) (by decide) rfl (Nat.le_of_ble_eq_true rfl) ?_
  intro p e s m below meth c ls hx hb hml hr hown hts hlk hH hK hl
  have hown : s.vm.findClass RX3 = some m.cls := hown
  have hl : lv_has ls 2 [(0, .int x), (1, .int (nI j))] := hl
  refine lv_iload_n hx hb dX3_has_0 rfl (lv_at hl 0 rfl) ?_
  refine lv_iload_n hx hb dX3_has_1 rfl (lv_at hl 1 rfl) ?_
  refine lv_ishr hx hb dX3_has_2 ?_
  refine lv_iconst (v := 1) hx hb dX3_has_3 (by decide) ?_
  refine lv_iand hx hb dX3_has_4 ?_
  refine lv_if_eq (tgt := 12) hx hb dX3_has_5 (by decide) (fun h1 => ?_) (fun h1 => ?_)
  · refine lv_iconst (v := 0) hx hb dX3_has_12 (by decide) ?_
    exact RO_zret hx hb hr hlk hH dX3_has_13 (by decide) (by first | exact bI_of (by cases h9 : bt x j with | true => rfl | false => exact absurd ((hasZ hj).mpr h9) h1) | exact bI_no ((hasZ hj).mp h1))
  · refine lv_iconst (v := 1) hx hb dX3_has_8 (by decide) ?_
    refine lv_goto (tgt := 13) hx hb dX3_has_9 (by decide) ?_
    exact RO_zret hx hb hr hlk hH dX3_has_13 (by decide) (by first | exact bI_of (by cases h9 : bt x j with | true => rfl | false => exact absurd ((hasZ hj).mpr h9) h1) | exact bI_no ((hasZ hj).mp h1))
set_option maxHeartbeats 4000000 in
set_option maxRecDepth 100000 in
theorem c_X0_size (l : Launch) {D : va_G} {cA : ClassId} {H0 : Heap} {qh qf ql : Nat} {bu : Int32} (hs : small bu) (hP : va_P D vwCl [(qh, .inr (0, [.int bu, .ref qf, .ref ql]))] H0) : RO l yX0_size wsX0_size 1 20 [.ref qh] D cA H0 (some (.int (nI (ct (bt bu) 14)))) := by
  refine RO_of (cc := cX0_size) (maxL := 1) (ret := (some .int)) (by decide) rfl (Nat.le_of_ble_eq_true rfl) ?_
  intro p e s m below meth c ls hx hb hml hr hown hts hlk hH hK hl
  have hown : s.vm.findClass RX0 = some m.cls := hown
  have hl : lv_has ls 1 [(0, .ref qh)] := hl
  have hinX0 : ∀ w ∈ wsX00, w ∈ wsX0_size := by decide +kernel
  refine lv_aload_n hx hb dX0_size_0 rfl (lv_at hl 0 rfl) ?_
  refine va_get (D := D) (ci := 0) (v := .int bu) (C := RX0) (T := TX0) (N := 3) hx hb hts hinX0 hown hK.1 hP 0 rfl rfl 0 (by decide) (hts (.fieldLink RX0 18 "CairnShells$Hearths" "burning" "I") (by decide +kernel)) (fun _ h9 => h9) rfl dX0_size_1 ?_
  refine RO_go (va_runS (As := [.int bu]) (rest := []) ⟨hx, hb, hml, hown, hts⟩ (c_bc l (D := D) (cA := cA) (H0 := H0) (x := bu) (hs := by assumption)) (va_cwS 1 hts gX0_size_J6_bitCount_0f7a4 rfl rfl rfl (by decide +kernel) ⟨Nat.le_of_ble_eq_true rfl, Nat.le_of_ble_eq_true rfl⟩) (cP_S hK) rfl rfl hl.1 rfl (lv_room (Nat.le_of_ble_eq_true rfl)) dX0_size_4 ⟨by omega, by omega⟩) ?_
  exact RO_zret hx hb hr hlk hH dX0_size_7 (by rfl) rfl
set_option maxHeartbeats 4000000 in
set_option maxRecDepth 100000 in
theorem c_X0_isAt (l : Launch) {D : va_G} {cA : ClassId} {H0 : Heap} {qh qf ql : Nat} {bu : Int32} (j : Nat) (hj : j < 14) (hP : va_P D vwCl [(qh, .inr (0, [.int bu, .ref qf, .ref ql]))] H0) : RO l yX0_isAt wsX0_isAt 1 21 [.ref qh, .int (nI j)] D cA H0 (some (.int (bI (bt bu j)))) := by
  refine RO_of (cc := cX0_isAt) (maxL := 2) (ret := (some .boolean)) (by decide) rfl (Nat.le_of_ble_eq_true rfl) ?_
  intro p e s m below meth c ls hx hb hml hr hown hts hlk hH hK hl
  have hown : s.vm.findClass RX0 = some m.cls := hown
  have hl : lv_has ls 2 [(0, .ref qh), (1, .int (nI j))] := hl
  have hinX0 : ∀ w ∈ wsX00, w ∈ wsX0_isAt := by decide +kernel
  refine lv_aload_n hx hb dX0_isAt_0 rfl (lv_at hl 0 rfl) ?_
  refine va_get (D := D) (ci := 0) (v := .int bu) (C := RX0) (T := TX0) (N := 3) hx hb hts hinX0 hown hK.1 hP 0 rfl rfl 0 (by decide) (hts (.fieldLink RX0 18 "CairnShells$Hearths" "burning" "I") (by decide +kernel)) (fun _ h9 => h9) rfl dX0_isAt_1 ?_
  refine lv_iload_n hx hb dX0_isAt_4 rfl (lv_at hl 1 rfl) ?_
  refine RO_go (va_runSN (As := [.int bu, .int (nI j)]) (rest := []) ⟨hx, hb, hml, hown, hts⟩ (c_X3_has l (D := D) (cA := cA) (H0 := H0) (x := bu) (j := j) (hj := by omega)) ⟨va_cnB 2 hts gX0_isAt_X3_has_n28 rfl rfl rfl hK.2.1 (hts (.initialized RX3) (by decide +kernel)) (by decide +kernel) ⟨Nat.le_of_ble_eq_true rfl, Nat.le_of_ble_eq_true rfl⟩, (hts (.static yX3_has) (by decide +kernel)), trivial⟩ (cP_S hK) rfl rfl hl.1 rfl (lv_room (Nat.le_of_ble_eq_true rfl)) dX0_isAt_5 ⟨by omega, by omega⟩) ?_
  exact RO_zret hx hb hr hlk hH dX0_isAt_8 (bI_nar _) rfl
set_option maxHeartbeats 4000000 in
set_option maxRecDepth 100000 in
theorem c_X0_firstAt (l : Launch) {D : va_G} {cA : ClassId} {H0 : Heap} {qh qf ql : Nat} {bu : Int32} {fi : Nat → Int32} (j : Nat) (hj : j < 14) (hP : va_P D vwCl [(qh, .inr (0, [.int bu, .ref qf, .ref ql])), (qf, .inl (cA, 14, .inl fi))] H0) : RO l yX0_firstAt wsX0_firstAt 0 0 [.ref qh, .int (nI j)] D cA H0 (some (.int (fi j))) := by
  refine RO_of (cc := cX0_firstAt) (maxL := 2) (ret := (some .int)) (by decide) rfl (Nat.le_of_ble_eq_true rfl) ?_
  intro p e s m below meth c ls hx hb hml hr hown hts hlk hH hK hl
  have hown : s.vm.findClass RX0 = some m.cls := hown
  have hl : lv_has ls 2 [(0, .ref qh), (1, .int (nI j))] := hl
  have hinX0 : ∀ w ∈ wsX00, w ∈ wsX0_firstAt := by decide +kernel
  refine lv_aload_n hx hb dX0_firstAt_0 rfl (lv_at hl 0 rfl) ?_
  refine va_get (D := D) (ci := 0) (v := .ref qf) (C := RX0) (T := TX0) (N := 3) hx hb hts hinX0 hown hK.1 hP 0 rfl rfl 1 (by decide) (hts (.fieldLink RX0 9 "CairnShells$Hearths" "first" "[I") (by decide +kernel)) (fun _ h9 => h9) rfl dX0_firstAt_1 ?_
  refine lv_iload_n hx hb dX0_firstAt_4 rfl (lv_at hl 1 rfl) ?_
  refine my_iald (D := D) (j := j) hx hb hK hP 1 rfl (by omega) (by decide) dX0_firstAt_5 ?_
  exact RO_zret hx hb hr hlk hH dX0_firstAt_6 (by rfl) rfl
set_option maxHeartbeats 4000000 in
set_option maxRecDepth 100000 in
theorem c_X0_put (l : Launch) {D : va_G} {cA : ClassId} {H0 : Heap} {qh qf ql : Nat} {bu : Int32} {fi la : Nat → Int32} (j : Nat) (fr : Int32) (la2 : Int32) (hj : j < 14) (hP : va_P D vwCl [(qh, .inr (0, [.int bu, .ref qf, .ref ql])), (qf, .inl (cA, 14, .inl fi)), (ql, .inl (cA, 14, .inl la))] H0) (hD0 : va_D (fun _ => True) [(qh, .inr (0, [.int bu, .ref qf, .ref ql])), (qf, .inl (cA, 14, .inl fi)), (ql, .inl (cA, 14, .inl la))]) : WR l yX0_put wsX0_put 0 0 0 0 [.ref qh, .int (nI j), .int fr, .int la2] D cA H0 none [(qh, .inr (0, [.int bu, .ref qf, .ref ql])), (qf, .inl (cA, 14, .inl fi)), (ql, .inl (cA, 14, .inl la))] [(qh, .inr (0, [.int (bu ||| (1 <<< (nI j &&& 31))), .ref qf, .ref ql])), (qf, .inl (cA, 14, .inl (upd fi j fr))), (ql, .inl (cA, 14, .inl (upd la j la2)))] := by
  refine WR_of (cc := cX0_put) (maxL := 4) (ret := none) (by decide) rfl (Nat.le_of_ble_eq_true rfl) ?_
  intro p e s m below meth c ls hx hb hml hr hown hts hlk hin2 hH hK hl
  have hown : s.vm.findClass RX0 = some m.cls := hown
  have hl : lv_has ls 4 [(0, .ref qh), (1, .int (nI j)), (2, .int fr), (3, .int la2)] := hl
  have hinX0 : ∀ w ∈ wsX00, w ∈ wsX0_put := by decide +kernel
  have hD := hD0.self (sz := H0.size)
  obtain ⟨A, hAe⟩ : ∃ A, A = va_A [(qh, .inr (0, [.int bu, .ref qf, .ref ql])), (qf, .inl (cA, 14, .inl fi)), (ql, .inl (cA, 14, .inl la))] H0.size := ⟨_, rfl⟩
  rw [← hAe] at hD ⊢
  have hA : ∀ q : Nat, H0.size ≤ q → A q := fun q h => by rw [hAe]; exact Or.inr h
  have hS : va_S A H0 H0 [] := va_S.rf
  refine lv_aload_n hx hb dX0_put_0 rfl (lv_at hl 0 rfl) ?_
  refine lv_dup hx hb dX0_put_1 rfl ?_
  refine va_get (D := D) (ci := 0) (v := .int bu) (C := RX0) (T := TX0) (N := 3) hx hb hts hinX0 hown hK.1 hP 0 rfl rfl 0 (by decide) (hts (.fieldLink RX0 18 "CairnShells$Hearths" "burning" "I") (by decide +kernel)) (fun _ h9 => h9) rfl dX0_put_2 ?_
  refine lv_iconst (v := 1) hx hb dX0_put_5 (by decide) ?_
  refine lv_iload_n hx hb dX0_put_6 rfl (lv_at hl 1 rfl) ?_
  refine lv_ishl hx hb dX0_put_7 ?_
  refine lv_ior hx hb dX0_put_8 ?_
  refine va_put (D := D) (ci := 0) (v := .int (bu ||| ((1 : Int32) <<< ((nI j) &&& 31)))) (ty := .int) (C := RX0) (T := TX0) (N := 3) hx hb hts hinX0 tyX0 tyX0_ok nmX0 hown hK.1 hP hD hS 0 rfl rfl 0 (by decide) (hts (.fieldLink RX0 18 "CairnShells$Hearths" "burning" "I") (by decide +kernel)) (fun _ h9 => h9) rfl (by decide +kernel) rfl rfl (Nat.le_of_ble_eq_true rfl) dX0_put_9 (fun H locs hP hD hS => ?_)
  have hP : va_P D vwCl [(qh, .inr (0, [.int (bu ||| ((1 : Int32) <<< ((nI j) &&& 31))), .ref qf, .ref ql])), (qf, .inl (cA, 14, .inl fi)), (ql, .inl (cA, 14, .inl la))] H := hP
  have hD : va_D A [(qh, .inr (0, [.int (bu ||| ((1 : Int32) <<< ((nI j) &&& 31))), .ref qf, .ref ql])), (qf, .inl (cA, 14, .inl fi)), (ql, .inl (cA, 14, .inl la))] := hD
  refine lv_aload_n hx hb dX0_put_12 rfl (lv_at hl 0 rfl) ?_
  refine va_get (D := D) (ci := 0) (v := .ref qf) (C := RX0) (T := TX0) (N := 3) hx hb hts hinX0 hown hK.1 hP 0 rfl rfl 1 (by decide) (hts (.fieldLink RX0 9 "CairnShells$Hearths" "first" "[I") (by decide +kernel)) (fun _ h9 => h9) rfl dX0_put_13 ?_
  refine lv_iload_n hx hb dX0_put_16 rfl (lv_at hl 1 rfl) ?_
  refine lv_iload_n hx hb dX0_put_17 rfl (lv_at hl 2 rfl) ?_
  refine my_iast (D := D) (j := j) hx hb hK hP hD hS 1 rfl (by omega) (by decide) dX0_put_18 (fun H locs hP hD hS => ?_)
  have hP : va_P D vwCl [(qh, .inr (0, [.int (bu ||| ((1 : Int32) <<< ((nI j) &&& 31))), .ref qf, .ref ql])), (qf, .inl (cA, 14, .inl (upd fi j fr))), (ql, .inl (cA, 14, .inl la))] H := hP
  have hD : va_D A [(qh, .inr (0, [.int (bu ||| ((1 : Int32) <<< ((nI j) &&& 31))), .ref qf, .ref ql])), (qf, .inl (cA, 14, .inl (upd fi j fr))), (ql, .inl (cA, 14, .inl la))] := hD
  refine lv_aload_n hx hb dX0_put_19 rfl (lv_at hl 0 rfl) ?_
  refine va_get (D := D) (ci := 0) (v := .ref ql) (C := RX0) (T := TX0) (N := 3) hx hb hts hinX0 hown hK.1 hP 0 rfl rfl 2 (by decide) (hts (.fieldLink RX0 15 "CairnShells$Hearths" "last" "[I") (by decide +kernel)) (fun _ h9 => h9) rfl dX0_put_20 ?_
  refine lv_iload_n hx hb dX0_put_23 rfl (lv_at hl 1 rfl) ?_
  refine lv_iload_n hx hb dX0_put_24 rfl (lv_at hl 3 rfl) ?_
  refine my_iast (D := D) (j := j) hx hb hK hP hD hS 2 rfl (by omega) (by decide) dX0_put_25 (fun H locs hP hD hS => ?_)
  have hP : va_P D vwCl [(qh, .inr (0, [.int (bu ||| ((1 : Int32) <<< ((nI j) &&& 31))), .ref qf, .ref ql])), (qf, .inl (cA, 14, .inl (upd fi j fr))), (ql, .inl (cA, 14, .inl (upd la j la2)))] H := hP
  have hD : va_D A [(qh, .inr (0, [.int (bu ||| ((1 : Int32) <<< ((nI j) &&& 31))), .ref qf, .ref ql])), (qf, .inl (cA, 14, .inl (upd fi j fr))), (ql, .inl (cA, 14, .inl (upd la j la2)))] := hD
  exact WR_vret hAe hx hb hr hlk hH dX0_put_26 (by omega) (by omega) (hP.sub [0, 1, 2] rfl) hS
set_option maxHeartbeats 4000000 in
set_option maxRecDepth 100000 in
theorem c_X0_take (l : Launch) {D : va_G} {cA : ClassId} {H0 : Heap} {qh qf ql : Nat} {bu : Int32} {fi la : Nat → Int32} (j : Nat) (hj : j < 14) (hP : va_P D vwCl [(qh, .inr (0, [.int bu, .ref qf, .ref ql])), (qf, .inl (cA, 14, .inl fi)), (ql, .inl (cA, 14, .inl la))] H0) (hD0 : va_D (fun _ => True) [(qh, .inr (0, [.int bu, .ref qf, .ref ql])), (qf, .inl (cA, 14, .inl fi)), (ql, .inl (cA, 14, .inl la))]) : WR l yX0_take wsX0_take 0 0 0 0 [.ref qh, .int (nI j)] D cA H0 none [(qh, .inr (0, [.int bu, .ref qf, .ref ql])), (qf, .inl (cA, 14, .inl fi)), (ql, .inl (cA, 14, .inl la))] [(qh, .inr (0, [.int (bu &&& ((1 <<< (nI j &&& 31)) ^^^ (-1))), .ref qf, .ref ql])), (qf, .inl (cA, 14, .inl (upd fi j 0))), (ql, .inl (cA, 14, .inl (upd la j 9999)))] := by
  refine WR_of (cc := cX0_take) (maxL := 2) (ret := none) (by decide) rfl (Nat.le_of_ble_eq_true rfl) ?_
  intro p e s m below meth c ls hx hb hml hr hown hts hlk hin2 hH hK hl
  have hown : s.vm.findClass RX0 = some m.cls := hown
  have hl : lv_has ls 2 [(0, .ref qh), (1, .int (nI j))] := hl
  have hinX0 : ∀ w ∈ wsX00, w ∈ wsX0_take := by decide +kernel
  have hD := hD0.self (sz := H0.size)
  obtain ⟨A, hAe⟩ : ∃ A, A = va_A [(qh, .inr (0, [.int bu, .ref qf, .ref ql])), (qf, .inl (cA, 14, .inl fi)), (ql, .inl (cA, 14, .inl la))] H0.size := ⟨_, rfl⟩
  rw [← hAe] at hD ⊢
  have hA : ∀ q : Nat, H0.size ≤ q → A q := fun q h => by rw [hAe]; exact Or.inr h
  have hS : va_S A H0 H0 [] := va_S.rf
  refine lv_aload_n hx hb dX0_take_0 rfl (lv_at hl 0 rfl) ?_
  refine lv_dup hx hb dX0_take_1 rfl ?_
  refine va_get (D := D) (ci := 0) (v := .int bu) (C := RX0) (T := TX0) (N := 3) hx hb hts hinX0 hown hK.1 hP 0 rfl rfl 0 (by decide) (hts (.fieldLink RX0 18 "CairnShells$Hearths" "burning" "I") (by decide +kernel)) (fun _ h9 => h9) rfl dX0_take_2 ?_
  refine lv_iconst (v := 1) hx hb dX0_take_5 (by decide) ?_
  refine lv_iload_n hx hb dX0_take_6 rfl (lv_at hl 1 rfl) ?_
  refine lv_ishl hx hb dX0_take_7 ?_
  refine lv_iconst (v := (-1)) hx hb dX0_take_8 (by decide) ?_
  refine lv_ixor hx hb dX0_take_9 ?_
  refine lv_iand hx hb dX0_take_10 ?_
  refine va_put (D := D) (ci := 0) (v := .int (bu &&& (((1 : Int32) <<< ((nI j) &&& 31)) ^^^ (-1)))) (ty := .int) (C := RX0) (T := TX0) (N := 3) hx hb hts hinX0 tyX0 tyX0_ok nmX0 hown hK.1 hP hD hS 0 rfl rfl 0 (by decide) (hts (.fieldLink RX0 18 "CairnShells$Hearths" "burning" "I") (by decide +kernel)) (fun _ h9 => h9) rfl (by decide +kernel) rfl rfl (Nat.le_of_ble_eq_true rfl) dX0_take_11 (fun H locs hP hD hS => ?_)
  have hP : va_P D vwCl [(qh, .inr (0, [.int (bu &&& (((1 : Int32) <<< ((nI j) &&& 31)) ^^^ (-1))), .ref qf, .ref ql])), (qf, .inl (cA, 14, .inl fi)), (ql, .inl (cA, 14, .inl la))] H := hP
  have hD : va_D A [(qh, .inr (0, [.int (bu &&& (((1 : Int32) <<< ((nI j) &&& 31)) ^^^ (-1))), .ref qf, .ref ql])), (qf, .inl (cA, 14, .inl fi)), (ql, .inl (cA, 14, .inl la))] := hD
  refine lv_aload_n hx hb dX0_take_14 rfl (lv_at hl 0 rfl) ?_
  refine va_get (D := D) (ci := 0) (v := .ref qf) (C := RX0) (T := TX0) (N := 3) hx hb hts hinX0 hown hK.1 hP 0 rfl rfl 1 (by decide) (hts (.fieldLink RX0 9 "CairnShells$Hearths" "first" "[I") (by decide +kernel)) (fun _ h9 => h9) rfl dX0_take_15 ?_
  refine lv_iload_n hx hb dX0_take_18 rfl (lv_at hl 1 rfl) ?_
  refine lv_iconst (v := 0) hx hb dX0_take_19 (by decide) ?_
  refine my_iast (D := D) (j := j) hx hb hK hP hD hS 1 rfl (by omega) (by decide) dX0_take_20 (fun H locs hP hD hS => ?_)
  have hP : va_P D vwCl [(qh, .inr (0, [.int (bu &&& (((1 : Int32) <<< ((nI j) &&& 31)) ^^^ (-1))), .ref qf, .ref ql])), (qf, .inl (cA, 14, .inl (upd fi j 0))), (ql, .inl (cA, 14, .inl la))] H := hP
  have hD : va_D A [(qh, .inr (0, [.int (bu &&& (((1 : Int32) <<< ((nI j) &&& 31)) ^^^ (-1))), .ref qf, .ref ql])), (qf, .inl (cA, 14, .inl (upd fi j 0))), (ql, .inl (cA, 14, .inl la))] := hD
  refine lv_aload_n hx hb dX0_take_21 rfl (lv_at hl 0 rfl) ?_
  refine va_get (D := D) (ci := 0) (v := .ref ql) (C := RX0) (T := TX0) (N := 3) hx hb hts hinX0 hown hK.1 hP 0 rfl rfl 2 (by decide) (hts (.fieldLink RX0 15 "CairnShells$Hearths" "last" "[I") (by decide +kernel)) (fun _ h9 => h9) rfl dX0_take_22 ?_
  refine lv_iload_n hx hb dX0_take_25 rfl (lv_at hl 1 rfl) ?_
  refine lv_sipush (v := 9999) hx hb dX0_take_26 (by decide) ?_
  refine my_iast (D := D) (j := j) hx hb hK hP hD hS 2 rfl (by omega) (by decide) dX0_take_29 (fun H locs hP hD hS => ?_)
  have hP : va_P D vwCl [(qh, .inr (0, [.int (bu &&& (((1 : Int32) <<< ((nI j) &&& 31)) ^^^ (-1))), .ref qf, .ref ql])), (qf, .inl (cA, 14, .inl (upd fi j 0))), (ql, .inl (cA, 14, .inl (upd la j 9999)))] H := hP
  have hD : va_D A [(qh, .inr (0, [.int (bu &&& (((1 : Int32) <<< ((nI j) &&& 31)) ^^^ (-1))), .ref qf, .ref ql])), (qf, .inl (cA, 14, .inl (upd fi j 0))), (ql, .inl (cA, 14, .inl (upd la j 9999)))] := hD
  exact WR_vret hAe hx hb hr hlk hH dX0_take_30 (by omega) (by omega) (hP.sub [0, 1, 2] rfl) hS
set_option maxHeartbeats 4000000 in
set_option maxRecDepth 100000 in
theorem c_X0_copy (l : Launch) {D : va_G} {cA : ClassId} {H0 : Heap} {qh qf ql : Nat} {bu : Int32} {fi la : Nat → Int32} {qh2 qf2 ql2 : Nat} {bu2 : Int32} {fi2 la2 : Nat → Int32} (hP : va_P D vwCl [(qh, .inr (0, [.int bu, .ref qf, .ref ql])), (qf, .inl (cA, 14, .inl fi)), (ql, .inl (cA, 14, .inl la)), (qh2, .inr (0, [.int bu2, .ref qf2, .ref ql2])), (qf2, .inl (cA, 14, .inl fi2)), (ql2, .inl (cA, 14, .inl la2))] H0) (hD0 : va_D (fun _ => True) [(qh, .inr (0, [.int bu, .ref qf, .ref ql])), (qf, .inl (cA, 14, .inl fi)), (ql, .inl (cA, 14, .inl la)), (qh2, .inr (0, [.int bu2, .ref qf2, .ref ql2])), (qf2, .inl (cA, 14, .inl fi2)), (ql2, .inl (cA, 14, .inl la2))]) : WR l yX0_copy wsX0_copy 0 0 0 0 [.ref qh, .ref qh2] D cA H0 none [(qh, .inr (0, [.int bu, .ref qf, .ref ql])), (qf, .inl (cA, 14, .inl fi)), (ql, .inl (cA, 14, .inl la)), (qh2, .inr (0, [.int bu2, .ref qf2, .ref ql2])), (qf2, .inl (cA, 14, .inl fi2)), (ql2, .inl (cA, 14, .inl la2))] [(qh, .inr (0, [.int bu2, .ref qf, .ref ql])), (qf, .inl (cA, 14, .inl (cpF fi fi2 14))), (ql, .inl (cA, 14, .inl (cpF la la2 14))), (qh2, .inr (0, [.int bu2, .ref qf2, .ref ql2])), (qf2, .inl (cA, 14, .inl fi2)), (ql2, .inl (cA, 14, .inl la2))] := by
  refine WR_of (cc := cX0_copy) (maxL := 3) (ret := none) (by decide) rfl (Nat.le_of_ble_eq_true rfl) ?_
  intro p e s m below meth c ls hx hb hml hr hown hts hlk hin2 hH hK hl
  have hown : s.vm.findClass RX0 = some m.cls := hown
  have hl : lv_has ls 3 [(0, .ref qh), (1, .ref qh2)] := hl
  have hinX0 : ∀ w ∈ wsX00, w ∈ wsX0_copy := by decide +kernel
  have hD := hD0.self (sz := H0.size)
  obtain ⟨A, hAe⟩ : ∃ A, A = va_A [(qh, .inr (0, [.int bu, .ref qf, .ref ql])), (qf, .inl (cA, 14, .inl fi)), (ql, .inl (cA, 14, .inl la)), (qh2, .inr (0, [.int bu2, .ref qf2, .ref ql2])), (qf2, .inl (cA, 14, .inl fi2)), (ql2, .inl (cA, 14, .inl la2))] H0.size := ⟨_, rfl⟩
  rw [← hAe] at hD ⊢
  have hA : ∀ q : Nat, H0.size ≤ q → A q := fun q h => by rw [hAe]; exact Or.inr h
  have hS : va_S A H0 H0 [] := va_S.rf
  refine lv_aload_n hx hb dX0_copy_0 rfl (lv_at hl 0 rfl) ?_
  refine lv_aload_n hx hb dX0_copy_1 rfl (lv_at hl 1 rfl) ?_
  refine va_get (D := D) (ci := 0) (v := .int bu2) (C := RX0) (T := TX0) (N := 3) hx hb hts hinX0 hown hK.1 hP 3 rfl rfl 0 (by decide) (hts (.fieldLink RX0 18 "CairnShells$Hearths" "burning" "I") (by decide +kernel)) (fun _ h9 => h9) rfl dX0_copy_2 ?_
  refine va_put (D := D) (ci := 0) (v := .int bu2) (ty := .int) (C := RX0) (T := TX0) (N := 3) hx hb hts hinX0 tyX0 tyX0_ok nmX0 hown hK.1 hP hD hS 0 rfl rfl 0 (by decide) (hts (.fieldLink RX0 18 "CairnShells$Hearths" "burning" "I") (by decide +kernel)) (fun _ h9 => h9) rfl (by decide +kernel) rfl rfl (Nat.le_of_ble_eq_true rfl) dX0_copy_5 (fun H locs hP hD hS => ?_)
  have hP : va_P D vwCl [(qh, .inr (0, [.int bu2, .ref qf, .ref ql])), (qf, .inl (cA, 14, .inl fi)), (ql, .inl (cA, 14, .inl la)), (qh2, .inr (0, [.int bu2, .ref qf2, .ref ql2])), (qf2, .inl (cA, 14, .inl fi2)), (ql2, .inl (cA, 14, .inl la2))] H := hP
  have hD : va_D A [(qh, .inr (0, [.int bu2, .ref qf, .ref ql])), (qf, .inl (cA, 14, .inl fi)), (ql, .inl (cA, 14, .inl la)), (qh2, .inr (0, [.int bu2, .ref qf2, .ref ql2])), (qf2, .inl (cA, 14, .inl fi2)), (ql2, .inl (cA, 14, .inl la2))] := hD
  refine lv_iconst (v := 0) hx hb dX0_copy_8 (by decide) ?_
  refine lv_istore_n (lv' := [(2, .int 0), (0, .ref qh), (1, .ref qh2)]) hx hb dX0_copy_9 rfl hl (by decide) rfl (fun ls hl => ?_)
  suffices loop : ∀ (n k : Nat) (f1 : Nat → Int32) (f2 : Nat → Int32), k ≤ 14 → 14 < k + n → f1 = cpF fi fi2 k → f2 = cpF la la2 k → ∀ (H : Heap) (locs : List Loc), va_P D vwCl [(qh, .inr (0, [.int bu2, .ref qf, .ref ql])), (qf, .inl (cA, 14, .inl f1)), (ql, .inl (cA, 14, .inl f2)), (qh2, .inr (0, [.int bu2, .ref qf2, .ref ql2])), (qf2, .inl (cA, 14, .inl fi2)), (ql2, .inl (cA, 14, .inl la2))] H → va_D A [(qh, .inr (0, [.int bu2, .ref qf, .ref ql])), (qf, .inl (cA, 14, .inl f1)), (ql, .inl (cA, 14, .inl f2)), (qh2, .inr (0, [.int bu2, .ref qf2, .ref ql2])), (qf2, .inl (cA, 14, .inl fi2)), (ql2, .inl (cA, 14, .inl la2))] → va_S A H0 H locs → ∀ ls, lv_has ls 3 [(2, .int (nI k)), (0, .ref qh), (1, .ref qh2)] → W p l e { frames := 0, cells := 0, slots := 0, locals := 0 } s m ([.ref qh, .ref qh2] : List Value).toArray below meth c H locs (0) (0) (MQ below (wrQ none D [(qh, .inr (0, [.int bu, .ref qf, .ref ql])), (qf, .inl (cA, 14, .inl fi)), (ql, .inl (cA, 14, .inl la)), (qh2, .inr (0, [.int bu2, .ref qf2, .ref ql2])), (qf2, .inl (cA, 14, .inl fi2)), (ql2, .inl (cA, 14, .inl la2))] [(qh, .inr (0, [.int bu2, .ref qf, .ref ql])), (qf, .inl (cA, 14, .inl (cpF fi fi2 14))), (ql, .inl (cA, 14, .inl (cpF la la2 14))), (qh2, .inr (0, [.int bu2, .ref qf2, .ref ql2])), (qf2, .inl (cA, 14, .inl fi2)), (ql2, .inl (cA, 14, .inl la2))] H0) ([.ref qh, .ref qh2] : List Value).toArray s 0 0 A) (F0 m 10 ls []) from loop (14 + 1) 0 fi la (by omega) (by omega) (by first | rfl | simp [cpF_0]) (by first | rfl | simp [cpF_0]) _ _ hP hD hS _ (lv_sub hl [0, 1, 2] rfl)
  intro n
  induction n with
  | zero => intro k f1 f2 hk1 hk2; exact absurd hk2 (by omega)
  | succ n ih10 =>
    intro k f1 f2 hk10 hn10 ef1 ef2 H locs hP hD hS ls hl
    refine lv_iload_n hx hb dX0_copy_10 rfl (lv_at hl 0 rfl) ?_
    refine lv_bipush (v := 14) hx hb dX0_copy_11 (by decide) ?_
    refine my_geN (x := k) (y := 14) (tgt := 46) hx hb dX0_copy_13 (by decide) (by omega) (by omega) (fun h1 => ?_) (fun h1 => ?_)
    · obtain rfl : k = 14 := by omega
      subst ef1
      subst ef2
      exact WR_vret hAe hx hb hr hlk hH dX0_copy_46 (by omega) (by omega) (hP.sub [0, 1, 2, 3, 4, 5] rfl) hS
    · refine lv_aload_n hx hb dX0_copy_16 rfl (lv_at hl 1 rfl) ?_
      refine va_get (D := D) (ci := 0) (v := .ref qf) (C := RX0) (T := TX0) (N := 3) hx hb hts hinX0 hown hK.1 hP 0 rfl rfl 1 (by decide) (hts (.fieldLink RX0 9 "CairnShells$Hearths" "first" "[I") (by decide +kernel)) (fun _ h9 => h9) rfl dX0_copy_17 ?_
      refine lv_iload_n hx hb dX0_copy_20 rfl (lv_at hl 0 rfl) ?_
      refine lv_aload_n hx hb dX0_copy_21 rfl (lv_at hl 2 rfl) ?_
      refine va_get (D := D) (ci := 0) (v := .ref qf2) (C := RX0) (T := TX0) (N := 3) hx hb hts hinX0 hown hK.1 hP 3 rfl rfl 1 (by decide) (hts (.fieldLink RX0 9 "CairnShells$Hearths" "first" "[I") (by decide +kernel)) (fun _ h9 => h9) rfl dX0_copy_22 ?_
      refine lv_iload_n hx hb dX0_copy_25 rfl (lv_at hl 0 rfl) ?_
      refine my_iald (D := D) (j := k) hx hb hK hP 4 rfl (by omega) (by decide) dX0_copy_26 ?_
      refine my_iast (D := D) (j := k) hx hb hK hP hD hS 1 rfl (by omega) (by decide) dX0_copy_27 (fun H locs hP hD hS => ?_)
      have hP : va_P D vwCl [(qh, .inr (0, [.int bu2, .ref qf, .ref ql])), (qf, .inl (cA, 14, .inl (upd f1 k (fi2 k)))), (ql, .inl (cA, 14, .inl f2)), (qh2, .inr (0, [.int bu2, .ref qf2, .ref ql2])), (qf2, .inl (cA, 14, .inl fi2)), (ql2, .inl (cA, 14, .inl la2))] H := hP
      have hD : va_D A [(qh, .inr (0, [.int bu2, .ref qf, .ref ql])), (qf, .inl (cA, 14, .inl (upd f1 k (fi2 k)))), (ql, .inl (cA, 14, .inl f2)), (qh2, .inr (0, [.int bu2, .ref qf2, .ref ql2])), (qf2, .inl (cA, 14, .inl fi2)), (ql2, .inl (cA, 14, .inl la2))] := hD
      refine lv_aload_n hx hb dX0_copy_28 rfl (lv_at hl 1 rfl) ?_
      refine va_get (D := D) (ci := 0) (v := .ref ql) (C := RX0) (T := TX0) (N := 3) hx hb hts hinX0 hown hK.1 hP 0 rfl rfl 2 (by decide) (hts (.fieldLink RX0 15 "CairnShells$Hearths" "last" "[I") (by decide +kernel)) (fun _ h9 => h9) rfl dX0_copy_29 ?_
      refine lv_iload_n hx hb dX0_copy_32 rfl (lv_at hl 0 rfl) ?_
      refine lv_aload_n hx hb dX0_copy_33 rfl (lv_at hl 2 rfl) ?_
      refine va_get (D := D) (ci := 0) (v := .ref ql2) (C := RX0) (T := TX0) (N := 3) hx hb hts hinX0 hown hK.1 hP 3 rfl rfl 2 (by decide) (hts (.fieldLink RX0 15 "CairnShells$Hearths" "last" "[I") (by decide +kernel)) (fun _ h9 => h9) rfl dX0_copy_34 ?_
      refine lv_iload_n hx hb dX0_copy_37 rfl (lv_at hl 0 rfl) ?_
      refine my_iald (D := D) (j := k) hx hb hK hP 5 rfl (by omega) (by decide) dX0_copy_38 ?_
      refine my_iast (D := D) (j := k) hx hb hK hP hD hS 2 rfl (by omega) (by decide) dX0_copy_39 (fun H locs hP hD hS => ?_)
      have hP : va_P D vwCl [(qh, .inr (0, [.int bu2, .ref qf, .ref ql])), (qf, .inl (cA, 14, .inl (upd f1 k (fi2 k)))), (ql, .inl (cA, 14, .inl (upd f2 k (la2 k)))), (qh2, .inr (0, [.int bu2, .ref qf2, .ref ql2])), (qf2, .inl (cA, 14, .inl fi2)), (ql2, .inl (cA, 14, .inl la2))] H := hP
      have hD : va_D A [(qh, .inr (0, [.int bu2, .ref qf, .ref ql])), (qf, .inl (cA, 14, .inl (upd f1 k (fi2 k)))), (ql, .inl (cA, 14, .inl (upd f2 k (la2 k)))), (qh2, .inr (0, [.int bu2, .ref qf2, .ref ql2])), (qf2, .inl (cA, 14, .inl fi2)), (ql2, .inl (cA, 14, .inl la2))] := hD
      refine lv_iinc (v := nI (k + 1)) (x := nI k) (lv' := [(2, .int (nI (k + 1))), (0, .ref qh), (1, .ref qh2)]) hx hb dX0_copy_40 hl (k := 0) rfl (nI_1 k) (by decide) rfl (fun ls hl => ?_)
      refine lv_goto (tgt := 10) hx hb dX0_copy_43 (by decide) ?_
      exact ih10 (k + 1) (upd f1 k (fi2 k)) (upd f2 k (la2 k)) (by omega) (by omega) (by subst ef1; subst ef2; first | exact cpF_s | simp [cpF_s]) (by subst ef1; subst ef2; first | exact cpF_s | simp [cpF_s]) _ _ hP hD hS _ (lv_sub hl [0, 1, 2] rfl)
set_option maxHeartbeats 4000000 in
set_option maxRecDepth 100000 in
theorem c_X0_greatestFirst (l : Launch) {D : va_G} {cA : ClassId} {H0 : Heap} {qh qf ql : Nat} {bu : Int32} {fi : Nat → Int32} (x : Int32) (hP : va_P D vwCl [(qh, .inr (0, [.int bu, .ref qf, .ref ql])), (qf, .inl (cA, 14, .inl fi))] H0) : RO l yX0_greatestFirst wsX0_greatestFirst 1 21 [.ref qh, .int x] D cA H0 (some (.int (gF fi x 14))) := by
  refine RO_of (cc := cX0_greatestFirst) (maxL := 4) (ret := (some .int)) (by decide) rfl (Nat.le_of_ble_eq_true rfl) ?_
  intro p e s m below meth c ls hx hb hml hr hown hts hlk hH hK hl
  have hown : s.vm.findClass RX0 = some m.cls := hown
  have hl : lv_has ls 4 [(0, .ref qh), (1, .int x)] := hl
  have hinX0 : ∀ w ∈ wsX00, w ∈ wsX0_greatestFirst := by decide +kernel
  refine lv_iconst (v := 0) hx hb dX0_greatestFirst_0 (by decide) ?_
  refine lv_istore_n (lv' := [(2, .int 0), (0, .ref qh), (1, .int x)]) hx hb dX0_greatestFirst_1 rfl hl (by decide) rfl (fun ls hl => ?_)
  refine lv_iconst (v := 0) hx hb dX0_greatestFirst_2 (by decide) ?_
  refine lv_istore_n (lv' := [(3, .int 0), (2, .int 0), (0, .ref qh), (1, .int x)]) hx hb dX0_greatestFirst_3 rfl hl (by decide) rfl (fun ls hl => ?_)
  suffices loop : ∀ (n k : Nat) (y : Int32), k ≤ 14 → 14 < k + n → y = gF fi x k → ∀ ls, lv_has ls 4 [(3, .int (nI k)), (2, .int y), (0, .ref qh), (1, .int x)] → W p l e { frames := 1, cells := 0, slots := 0, locals := 21 } s m ([.ref qh, .int x] : List Value).toArray below meth c H0 [] 0 0 (MQ below (roQ (some (.int (gF fi x 14))) H0) ([.ref qh, .int x] : List Value).toArray s 0 0 (fun _ => False)) (F0 m 4 ls []) from loop (14 + 1) 0 0 (by omega) (by omega) (by first | rfl | simp []) _ (lv_sub hl [0, 1, 2, 3] rfl)
  intro n
  induction n with
  | zero => intro k y hk1 hk2; exact absurd hk2 (by omega)
  | succ n ih4 =>
    intro k y hk4 hn4 ey ls hl
    refine lv_iload_n hx hb dX0_greatestFirst_4 rfl (lv_at hl 0 rfl) ?_
    refine lv_bipush (v := 14) hx hb dX0_greatestFirst_5 (by decide) ?_
    refine my_geN (x := k) (y := 14) (tgt := 35) hx hb dX0_greatestFirst_7 (by decide) (by omega) (by omega) (fun h1 => ?_) (fun h1 => ?_)
    · obtain rfl : k = 14 := by omega
      subst ey
      refine lv_iload_n hx hb dX0_greatestFirst_35 rfl (lv_at hl 1 rfl) ?_
      exact RO_zret hx hb hr hlk hH dX0_greatestFirst_36 (by rfl) (by first | rfl | simp [h1])
    · refine lv_iload_n hx hb dX0_greatestFirst_10 rfl (lv_at hl 3 rfl) ?_
      refine lv_iload_n hx hb dX0_greatestFirst_11 rfl (lv_at hl 0 rfl) ?_
      refine RO_go (va_runSN (As := [.int x, .int (nI k)]) (rest := []) ⟨hx, hb, hml, hown, hts⟩ (c_X3_has l (D := D) (cA := cA) (H0 := H0) (x := x) (j := k) (hj := by omega)) ⟨va_cnB 2 hts gX0_greatestFirst_X3_has_n28 rfl rfl rfl hK.2.1 (hts (.initialized RX3) (by decide +kernel)) (by decide +kernel) ⟨Nat.le_of_ble_eq_true rfl, Nat.le_of_ble_eq_true rfl⟩, (hts (.static yX3_has) (by decide +kernel)), trivial⟩ (cP_S hK) rfl rfl hl.1 rfl (lv_room (Nat.le_of_ble_eq_true rfl)) dX0_greatestFirst_12 ⟨by omega, by omega⟩) ?_
      refine my_ifeq_b (tgt := 29) hx hb dX0_greatestFirst_15 (by decide) (fun h2 => ?_) (fun h2 => ?_)
      · refine lv_iinc (v := nI (k + 1)) (x := nI k) (lv' := [(3, .int (nI (k + 1))), (2, .int y), (0, .ref qh), (1, .int x)]) hx hb dX0_greatestFirst_29 hl (k := 0) rfl (nI_1 k) (by decide) rfl (fun ls hl => ?_)
        refine lv_goto (tgt := 4) hx hb dX0_greatestFirst_32 (by decide) ?_
        exact ih4 (k + 1) y (by omega) (by omega) (by subst ey; first | rfl | simp [gF, imax, h1, h2]) _ (lv_sub hl [0, 1, 2, 3] rfl)
      · refine lv_iload_n hx hb dX0_greatestFirst_18 rfl (lv_at hl 1 rfl) ?_
        refine lv_aload_n hx hb dX0_greatestFirst_19 rfl (lv_at hl 2 rfl) ?_
        refine va_get (D := D) (ci := 0) (v := .ref qf) (C := RX0) (T := TX0) (N := 3) hx hb hts hinX0 hown hK.1 hP 0 rfl rfl 1 (by decide) (hts (.fieldLink RX0 9 "CairnShells$Hearths" "first" "[I") (by decide +kernel)) (fun _ h9 => h9) rfl dX0_greatestFirst_20 ?_
        refine lv_iload_n hx hb dX0_greatestFirst_23 rfl (lv_at hl 0 rfl) ?_
        refine my_iald (D := D) (j := k) hx hb hK hP 1 rfl (by omega) (by decide) dX0_greatestFirst_24 ?_
        refine va_mmax hx hb (hml.trans hl.1.symm) hown (hts (.methodLink RX0 32 Lib.Math.max.name) (by decide +kernel)) (hts (.static Lib.Math.max.name) (by decide +kernel)) (hts (.initialized "java/lang/Math") (by decide +kernel)) (hts (.code Lib.Math.max.name Lib.Math.max.code 2 (some .int)) (by decide +kernel)) (Nat.le_of_ble_eq_true rfl) (Nat.le_of_ble_eq_true rfl) (by omega) (by omega) dX0_greatestFirst_25 ?_
        refine lv_istore_n (lv' := [(2, .int (imax y (fi k))), (3, .int (nI k)), (0, .ref qh), (1, .int x)]) hx hb dX0_greatestFirst_28 rfl hl (by decide) rfl (fun ls hl => ?_)
        refine lv_iinc (v := nI (k + 1)) (x := nI k) (lv' := [(3, .int (nI (k + 1))), (2, .int (imax y (fi k))), (0, .ref qh), (1, .int x)]) hx hb dX0_greatestFirst_29 hl (k := 1) rfl (nI_1 k) (by decide) rfl (fun ls hl => ?_)
        refine lv_goto (tgt := 4) hx hb dX0_greatestFirst_32 (by decide) ?_
        exact ih4 (k + 1) (imax y (fi k)) (by omega) (by omega) (by subst ey; first | rfl | simp [gF, imax, h1, h2]) _ (lv_sub hl [0, 1, 2, 3] rfl)
set_option maxHeartbeats 4000000 in
set_option maxRecDepth 100000 in
theorem c_X0_leastLast (l : Launch) {D : va_G} {cA : ClassId} {H0 : Heap} {qh qf ql : Nat} {bu : Int32} {la : Nat → Int32} (x : Int32) (hP : va_P D vwCl [(qh, .inr (0, [.int bu, .ref qf, .ref ql])), (ql, .inl (cA, 14, .inl la))] H0) : RO l yX0_leastLast wsX0_leastLast 1 21 [.ref qh, .int x] D cA H0 (some (.int (lL la x 14))) := by
  refine RO_of (cc := cX0_leastLast) (maxL := 4) (ret := (some .int)) (by decide) rfl (Nat.le_of_ble_eq_true rfl) ?_
  intro p e s m below meth c ls hx hb hml hr hown hts hlk hH hK hl
  have hown : s.vm.findClass RX0 = some m.cls := hown
  have hl : lv_has ls 4 [(0, .ref qh), (1, .int x)] := hl
  have hinX0 : ∀ w ∈ wsX00, w ∈ wsX0_leastLast := by decide +kernel
  refine lv_sipush (v := 9999) hx hb dX0_leastLast_0 (by decide) ?_
  refine lv_istore_n (lv' := [(2, .int 9999), (0, .ref qh), (1, .int x)]) hx hb dX0_leastLast_3 rfl hl (by decide) rfl (fun ls hl => ?_)
  refine lv_iconst (v := 0) hx hb dX0_leastLast_4 (by decide) ?_
  refine lv_istore_n (lv' := [(3, .int 0), (2, .int 9999), (0, .ref qh), (1, .int x)]) hx hb dX0_leastLast_5 rfl hl (by decide) rfl (fun ls hl => ?_)
  suffices loop : ∀ (n k : Nat) (y : Int32), k ≤ 14 → 14 < k + n → y = lL la x k → ∀ ls, lv_has ls 4 [(3, .int (nI k)), (2, .int y), (0, .ref qh), (1, .int x)] → W p l e { frames := 1, cells := 0, slots := 0, locals := 21 } s m ([.ref qh, .int x] : List Value).toArray below meth c H0 [] 0 0 (MQ below (roQ (some (.int (lL la x 14))) H0) ([.ref qh, .int x] : List Value).toArray s 0 0 (fun _ => False)) (F0 m 6 ls []) from loop (14 + 1) 0 9999 (by omega) (by omega) (by first | rfl | simp []) _ (lv_sub hl [0, 1, 2, 3] rfl)
  intro n
  induction n with
  | zero => intro k y hk1 hk2; exact absurd hk2 (by omega)
  | succ n ih6 =>
    intro k y hk6 hn6 ey ls hl
    refine lv_iload_n hx hb dX0_leastLast_6 rfl (lv_at hl 0 rfl) ?_
    refine lv_bipush (v := 14) hx hb dX0_leastLast_7 (by decide) ?_
    refine my_geN (x := k) (y := 14) (tgt := 37) hx hb dX0_leastLast_9 (by decide) (by omega) (by omega) (fun h1 => ?_) (fun h1 => ?_)
    · obtain rfl : k = 14 := by omega
      subst ey
      refine lv_iload_n hx hb dX0_leastLast_37 rfl (lv_at hl 1 rfl) ?_
      exact RO_zret hx hb hr hlk hH dX0_leastLast_38 (by rfl) (by first | rfl | simp [h1])
    · refine lv_iload_n hx hb dX0_leastLast_12 rfl (lv_at hl 3 rfl) ?_
      refine lv_iload_n hx hb dX0_leastLast_13 rfl (lv_at hl 0 rfl) ?_
      refine RO_go (va_runSN (As := [.int x, .int (nI k)]) (rest := []) ⟨hx, hb, hml, hown, hts⟩ (c_X3_has l (D := D) (cA := cA) (H0 := H0) (x := x) (j := k) (hj := by omega)) ⟨va_cnB 2 hts gX0_leastLast_X3_has_n28 rfl rfl rfl hK.2.1 (hts (.initialized RX3) (by decide +kernel)) (by decide +kernel) ⟨Nat.le_of_ble_eq_true rfl, Nat.le_of_ble_eq_true rfl⟩, (hts (.static yX3_has) (by decide +kernel)), trivial⟩ (cP_S hK) rfl rfl hl.1 rfl (lv_room (Nat.le_of_ble_eq_true rfl)) dX0_leastLast_14 ⟨by omega, by omega⟩) ?_
      refine my_ifeq_b (tgt := 31) hx hb dX0_leastLast_17 (by decide) (fun h2 => ?_) (fun h2 => ?_)
      · refine lv_iinc (v := nI (k + 1)) (x := nI k) (lv' := [(3, .int (nI (k + 1))), (2, .int y), (0, .ref qh), (1, .int x)]) hx hb dX0_leastLast_31 hl (k := 0) rfl (nI_1 k) (by decide) rfl (fun ls hl => ?_)
        refine lv_goto (tgt := 6) hx hb dX0_leastLast_34 (by decide) ?_
        exact ih6 (k + 1) y (by omega) (by omega) (by subst ey; first | rfl | simp [lL, imin, h1, h2]) _ (lv_sub hl [0, 1, 2, 3] rfl)
      · refine lv_iload_n hx hb dX0_leastLast_20 rfl (lv_at hl 1 rfl) ?_
        refine lv_aload_n hx hb dX0_leastLast_21 rfl (lv_at hl 2 rfl) ?_
        refine va_get (D := D) (ci := 0) (v := .ref ql) (C := RX0) (T := TX0) (N := 3) hx hb hts hinX0 hown hK.1 hP 0 rfl rfl 2 (by decide) (hts (.fieldLink RX0 15 "CairnShells$Hearths" "last" "[I") (by decide +kernel)) (fun _ h9 => h9) rfl dX0_leastLast_22 ?_
        refine lv_iload_n hx hb dX0_leastLast_25 rfl (lv_at hl 0 rfl) ?_
        refine my_iald (D := D) (j := k) hx hb hK hP 1 rfl (by omega) (by decide) dX0_leastLast_26 ?_
        refine va_mmin hx hb (hml.trans hl.1.symm) hown (hts (.methodLink RX0 38 Lib.Math.min.name) (by decide +kernel)) (hts (.static Lib.Math.min.name) (by decide +kernel)) (hts (.initialized "java/lang/Math") (by decide +kernel)) (hts (.code Lib.Math.min.name Lib.Math.min.code 2 (some .int)) (by decide +kernel)) (Nat.le_of_ble_eq_true rfl) (Nat.le_of_ble_eq_true rfl) (by omega) (by omega) dX0_leastLast_27 ?_
        refine lv_istore_n (lv' := [(2, .int (imin y (la k))), (3, .int (nI k)), (0, .ref qh), (1, .int x)]) hx hb dX0_leastLast_30 rfl hl (by decide) rfl (fun ls hl => ?_)
        refine lv_iinc (v := nI (k + 1)) (x := nI k) (lv' := [(3, .int (nI (k + 1))), (2, .int (imin y (la k))), (0, .ref qh), (1, .int x)]) hx hb dX0_leastLast_31 hl (k := 1) rfl (nI_1 k) (by decide) rfl (fun ls hl => ?_)
        refine lv_goto (tgt := 6) hx hb dX0_leastLast_34 (by decide) ?_
        exact ih6 (k + 1) (imin y (la k)) (by omega) (by omega) (by subst ey; first | rfl | simp [lL, imin, h1, h2]) _ (lv_sub hl [0, 1, 2, 3] rfl)
set_option maxHeartbeats 4000000 in
set_option maxRecDepth 100000 in
theorem c_X1_put (l : Launch) {D : va_G} {cA : ClassId} {H0 : Heap} {qv qm : Nat} {mn : Nat → Int32} (j : Nat) (kd : Nat) (x : Int32) (hj : j < 14) (hkd : kd < 4) (hP : va_P D vwCl [(qv, .inr (1, [.ref qm])), (qm, .inl (cA, 56, .inl mn))] H0) (hD0 : va_D (fun _ => True) [(qv, .inr (1, [.ref qm])), (qm, .inl (cA, 56, .inl mn))]) : WR l yX1_put wsX1_put 0 0 0 0 [.ref qv, .int (nI j), .int (nI kd), .int x] D cA H0 (some (.int (mn (j * 4 + kd)))) [(qv, .inr (1, [.ref qm])), (qm, .inl (cA, 56, .inl mn))] [(qv, .inr (1, [.ref qm])), (qm, .inl (cA, 56, .inl (upd mn (j * 4 + kd) x)))] := by
  refine WR_of (cc := cX1_put) (maxL := 6) (ret := (some .int)) (by decide) rfl (Nat.le_of_ble_eq_true rfl) ?_
  intro p e s m below meth c ls hx hb hml hr hown hts hlk hin2 hH hK hl
  have hown : s.vm.findClass RX1 = some m.cls := hown
  have hl : lv_has ls 6 [(0, .ref qv), (1, .int (nI j)), (2, .int (nI kd)), (3, .int x)] := hl
  have hinX1 : ∀ w ∈ wsX10, w ∈ wsX1_put := by decide +kernel
  have hD := hD0.self (sz := H0.size)
  obtain ⟨A, hAe⟩ : ∃ A, A = va_A [(qv, .inr (1, [.ref qm])), (qm, .inl (cA, 56, .inl mn))] H0.size := ⟨_, rfl⟩
  rw [← hAe] at hD ⊢
  have hA : ∀ q : Nat, H0.size ≤ q → A q := fun q h => by rw [hAe]; exact Or.inr h
  have hS : va_S A H0 H0 [] := va_S.rf
  refine lv_iload_n hx hb dX1_put_0 rfl (lv_at hl 1 rfl) ?_
  refine lv_iconst (v := 4) hx hb dX1_put_1 (by decide) ?_
  refine my_imulN (x := j) (y := 4) hx hb dX1_put_2 ?_
  refine lv_iload_n hx hb dX1_put_3 rfl (lv_at hl 2 rfl) ?_
  refine my_iaddN (x := j * 4) (y := kd) hx hb dX1_put_4 ?_
  refine lv_istore (lv' := [(4, .int (nI ((j * 4) + kd))), (0, .ref qv), (1, .int (nI j)), (2, .int (nI kd)), (3, .int x)]) hx hb dX1_put_5 hl (by decide) rfl (fun ls hl => ?_)
  refine lv_aload_n hx hb dX1_put_7 rfl (lv_at hl 1 rfl) ?_
  refine va_get (D := D) (ci := 1) (v := .ref qm) (C := RX1) (T := TX1) (N := 1) hx hb hts hinX1 hown hK.1 hP 0 rfl rfl 0 (by decide) (hts (.fieldLink RX1 9 "CairnShells$Sieve" "many" "[I") (by decide +kernel)) (fun _ h9 => h9) rfl dX1_put_8 ?_
  refine lv_iload hx hb dX1_put_11 (lv_at hl 0 rfl) ?_
  refine my_iald (D := D) (j := (j * 4) + kd) hx hb hK hP 1 rfl (by omega) (by decide) dX1_put_13 ?_
  refine lv_istore (lv' := [(5, .int (mn ((j * 4) + kd))), (4, .int (nI ((j * 4) + kd))), (0, .ref qv), (1, .int (nI j)), (2, .int (nI kd)), (3, .int x)]) hx hb dX1_put_14 hl (by decide) rfl (fun ls hl => ?_)
  refine lv_aload_n hx hb dX1_put_16 rfl (lv_at hl 2 rfl) ?_
  refine va_get (D := D) (ci := 1) (v := .ref qm) (C := RX1) (T := TX1) (N := 1) hx hb hts hinX1 hown hK.1 hP 0 rfl rfl 0 (by decide) (hts (.fieldLink RX1 9 "CairnShells$Sieve" "many" "[I") (by decide +kernel)) (fun _ h9 => h9) rfl dX1_put_17 ?_
  refine lv_iload hx hb dX1_put_20 (lv_at hl 1 rfl) ?_
  refine lv_iload_n hx hb dX1_put_22 rfl (lv_at hl 5 rfl) ?_
  refine my_iast (D := D) (j := (j * 4) + kd) hx hb hK hP hD hS 1 rfl (by omega) (by decide) dX1_put_23 (fun H locs hP hD hS => ?_)
  have hP : va_P D vwCl [(qv, .inr (1, [.ref qm])), (qm, .inl (cA, 56, .inl (upd mn ((j * 4) + kd) x)))] H := hP
  have hD : va_D A [(qv, .inr (1, [.ref qm])), (qm, .inl (cA, 56, .inl (upd mn ((j * 4) + kd) x)))] := hD
  refine lv_iload hx hb dX1_put_24 (lv_at hl 0 rfl) ?_
  exact WR_zret hAe hx hb hr hlk hH dX1_put_26 (by omega) (by omega) (hP.sub [0, 1] rfl) hS (by rfl) rfl
set_option maxHeartbeats 4000000 in
set_option maxRecDepth 100000 in
theorem c_X1_sum (l : Launch) {D : va_G} {cA : ClassId} {H0 : Heap} {qv qm : Nat} {mn : Nat → Int32} (x : Int32) (kd : Nat) (hkd : kd < 4) (hP : va_P D vwCl [(qv, .inr (1, [.ref qm])), (qm, .inl (cA, 56, .inl mn))] H0) : RO l yX1_sum wsX1_sum 1 21 [.ref qv, .int x, .int (nI kd)] D cA H0 (some (.int (sS mn x kd 14))) := by
  refine RO_of (cc := cX1_sum) (maxL := 5) (ret := (some .int)) (by decide) rfl (Nat.le_of_ble_eq_true rfl) ?_
  intro p e s m below meth c ls hx hb hml hr hown hts hlk hH hK hl
  have hown : s.vm.findClass RX1 = some m.cls := hown
  have hl : lv_has ls 5 [(0, .ref qv), (1, .int x), (2, .int (nI kd))] := hl
  have hinX1 : ∀ w ∈ wsX10, w ∈ wsX1_sum := by decide +kernel
  refine lv_iconst (v := 0) hx hb dX1_sum_0 (by decide) ?_
  refine lv_istore_n (lv' := [(3, .int 0), (0, .ref qv), (1, .int x), (2, .int (nI kd))]) hx hb dX1_sum_1 rfl hl (by decide) rfl (fun ls hl => ?_)
  refine lv_iconst (v := 0) hx hb dX1_sum_2 (by decide) ?_
  refine lv_istore (lv' := [(4, .int 0), (3, .int 0), (0, .ref qv), (1, .int x), (2, .int (nI kd))]) hx hb dX1_sum_3 hl (by decide) rfl (fun ls hl => ?_)
  suffices loop : ∀ (n k : Nat) (y : Int32), k ≤ 14 → 14 < k + n → y = sS mn x kd k → ∀ ls, lv_has ls 5 [(4, .int (nI k)), (3, .int y), (0, .ref qv), (1, .int x), (2, .int (nI kd))] → W p l e { frames := 1, cells := 0, slots := 0, locals := 21 } s m ([.ref qv, .int x, .int (nI kd)] : List Value).toArray below meth c H0 [] 0 0 (MQ below (roQ (some (.int (sS mn x kd 14))) H0) ([.ref qv, .int x, .int (nI kd)] : List Value).toArray s 0 0 (fun _ => False)) (F0 m 5 ls []) from loop (14 + 1) 0 0 (by omega) (by omega) (by first | rfl | simp []) _ (lv_sub hl [0, 1, 2, 3, 4] rfl)
  intro n
  induction n with
  | zero => intro k y hk1 hk2; exact absurd hk2 (by omega)
  | succ n ih5 =>
    intro k y hk5 hn5 ey ls hl
    refine lv_iload hx hb dX1_sum_5 (lv_at hl 0 rfl) ?_
    refine lv_bipush (v := 14) hx hb dX1_sum_7 (by decide) ?_
    refine my_geN (x := k) (y := 14) (tgt := 41) hx hb dX1_sum_9 (by decide) (by omega) (by omega) (fun h1 => ?_) (fun h1 => ?_)
    · obtain rfl : k = 14 := by omega
      subst ey
      refine lv_iload_n hx hb dX1_sum_41 rfl (lv_at hl 1 rfl) ?_
      exact RO_zret hx hb hr hlk hH dX1_sum_42 (by rfl) (by first | rfl | simp [h1])
    · refine lv_iload_n hx hb dX1_sum_12 rfl (lv_at hl 3 rfl) ?_
      refine lv_iload hx hb dX1_sum_13 (lv_at hl 0 rfl) ?_
      refine RO_go (va_runSN (As := [.int x, .int (nI k)]) (rest := []) ⟨hx, hb, hml, hown, hts⟩ (c_X3_has l (D := D) (cA := cA) (H0 := H0) (x := x) (j := k) (hj := by omega)) ⟨va_cnB 2 hts gX1_sum_X3_has_n15 rfl rfl rfl hK.2.2.1 (hts (.initialized RX3) (by decide +kernel)) (by decide +kernel) ⟨Nat.le_of_ble_eq_true rfl, Nat.le_of_ble_eq_true rfl⟩, (hts (.static yX3_has) (by decide +kernel)), trivial⟩ (cP_S hK) rfl rfl hl.1 rfl (lv_room (Nat.le_of_ble_eq_true rfl)) dX1_sum_15 ⟨by omega, by omega⟩) ?_
      refine my_ifeq_b (tgt := 35) hx hb dX1_sum_18 (by decide) (fun h2 => ?_) (fun h2 => ?_)
      · refine lv_iinc (v := nI (k + 1)) (x := nI k) (lv' := [(4, .int (nI (k + 1))), (3, .int y), (0, .ref qv), (1, .int x), (2, .int (nI kd))]) hx hb dX1_sum_35 hl (k := 0) rfl (nI_1 k) (by decide) rfl (fun ls hl => ?_)
        refine lv_goto (tgt := 5) hx hb dX1_sum_38 (by decide) ?_
        exact ih5 (k + 1) y (by omega) (by omega) (by subst ey; first | rfl | simp [sS, h1, h2]) _ (lv_sub hl [0, 1, 2, 3, 4] rfl)
      · refine lv_iload_n hx hb dX1_sum_21 rfl (lv_at hl 1 rfl) ?_
        refine lv_aload_n hx hb dX1_sum_22 rfl (lv_at hl 2 rfl) ?_
        refine va_get (D := D) (ci := 1) (v := .ref qm) (C := RX1) (T := TX1) (N := 1) hx hb hts hinX1 hown hK.1 hP 0 rfl rfl 0 (by decide) (hts (.fieldLink RX1 9 "CairnShells$Sieve" "many" "[I") (by decide +kernel)) (fun _ h9 => h9) rfl dX1_sum_23 ?_
        refine lv_iload hx hb dX1_sum_26 (lv_at hl 0 rfl) ?_
        refine lv_iconst (v := 4) hx hb dX1_sum_28 (by decide) ?_
        refine my_imulN (x := k) (y := 4) hx hb dX1_sum_29 ?_
        refine lv_iload_n hx hb dX1_sum_30 rfl (lv_at hl 4 rfl) ?_
        refine my_iaddN (x := k * 4) (y := kd) hx hb dX1_sum_31 ?_
        refine my_iald (D := D) (j := (k * 4) + kd) hx hb hK hP 1 rfl (by omega) (by decide) dX1_sum_32 ?_
        refine lv_iadd hx hb dX1_sum_33 ?_
        refine lv_istore_n (lv' := [(3, .int (y + (mn ((k * 4) + kd)))), (4, .int (nI k)), (0, .ref qv), (1, .int x), (2, .int (nI kd))]) hx hb dX1_sum_34 rfl hl (by decide) rfl (fun ls hl => ?_)
        refine lv_iinc (v := nI (k + 1)) (x := nI k) (lv' := [(4, .int (nI (k + 1))), (3, .int (y + (mn ((k * 4) + kd)))), (0, .ref qv), (1, .int x), (2, .int (nI kd))]) hx hb dX1_sum_35 hl (k := 1) rfl (nI_1 k) (by decide) rfl (fun ls hl => ?_)
        refine lv_goto (tgt := 5) hx hb dX1_sum_38 (by decide) ?_
        exact ih5 (k + 1) (y + (mn ((k * 4) + kd))) (by omega) (by omega) (by subst ey; first | rfl | simp [sS, h1, h2]) _ (lv_sub hl [0, 1, 2, 3, 4] rfl)
set_option maxHeartbeats 4000000 in
set_option maxRecDepth 100000 in
theorem c_X1_all (l : Launch) {D : va_G} {cA : ClassId} {H0 : Heap} {qv qm : Nat} {mn : Nat → Int32} (hP : va_P D vwCl [(qv, .inr (1, [.ref qm])), (qm, .inl (cA, 56, .inl mn))] H0) : RO l yX1_all wsX1_all 0 0 [.ref qv] D cA H0 (some (.int (sI mn 56))) := by
  refine RO_of (cc := cX1_all) (maxL := 3) (ret := (some .int)) (by decide) rfl (Nat.le_of_ble_eq_true rfl) ?_
  intro p e s m below meth c ls hx hb hml hr hown hts hlk hH hK hl
  have hown : s.vm.findClass RX1 = some m.cls := hown
  have hl : lv_has ls 3 [(0, .ref qv)] := hl
  have hinX1 : ∀ w ∈ wsX10, w ∈ wsX1_all := by decide +kernel
  refine lv_iconst (v := 0) hx hb dX1_all_0 (by decide) ?_
  refine lv_istore_n (lv' := [(1, .int 0), (0, .ref qv)]) hx hb dX1_all_1 rfl hl (by decide) rfl (fun ls hl => ?_)
  refine lv_iconst (v := 0) hx hb dX1_all_2 (by decide) ?_
  refine lv_istore_n (lv' := [(2, .int 0), (1, .int 0), (0, .ref qv)]) hx hb dX1_all_3 rfl hl (by decide) rfl (fun ls hl => ?_)
  suffices loop : ∀ (n k : Nat) (y : Int32), k ≤ 56 → 56 < k + n → y = sI mn k → ∀ ls, lv_has ls 3 [(2, .int (nI k)), (1, .int y), (0, .ref qv)] → W p l e { frames := 0, cells := 0, slots := 0, locals := 0 } s m ([.ref qv] : List Value).toArray below meth c H0 [] 0 0 (MQ below (roQ (some (.int (sI mn 56))) H0) ([.ref qv] : List Value).toArray s 0 0 (fun _ => False)) (F0 m 4 ls []) from loop (56 + 1) 0 0 (by omega) (by omega) (by first | rfl | simp []) _ (lv_sub hl [0, 1, 2] rfl)
  intro n
  induction n with
  | zero => intro k y hk1 hk2; exact absurd hk2 (by omega)
  | succ n ih4 =>
    intro k y hk4 hn4 ey ls hl
    refine lv_iload_n hx hb dX1_all_4 rfl (lv_at hl 0 rfl) ?_
    refine lv_aload_n hx hb dX1_all_5 rfl (lv_at hl 2 rfl) ?_
    refine va_get (D := D) (ci := 1) (v := .ref qm) (C := RX1) (T := TX1) (N := 1) hx hb hts hinX1 hown hK.1 hP 0 rfl rfl 0 (by decide) (hts (.fieldLink RX1 9 "CairnShells$Sieve" "many" "[I") (by decide +kernel)) (fun _ h9 => h9) rfl dX1_all_6 ?_
    refine va_alen (D := D) hx hb hK.1 hP 1 0 rfl rfl (v := 56) rfl dX1_all_9 ?_
    refine my_geN (x := k) (y := 56) (tgt := 28) hx hb dX1_all_10 (by decide) (by omega) (by omega) (fun h1 => ?_) (fun h1 => ?_)
    · obtain rfl : k = 56 := by omega
      subst ey
      refine lv_iload_n hx hb dX1_all_28 rfl (lv_at hl 1 rfl) ?_
      exact RO_zret hx hb hr hlk hH dX1_all_29 (by rfl) (by first | rfl | simp [h1])
    · refine lv_iload_n hx hb dX1_all_13 rfl (lv_at hl 1 rfl) ?_
      refine lv_aload_n hx hb dX1_all_14 rfl (lv_at hl 2 rfl) ?_
      refine va_get (D := D) (ci := 1) (v := .ref qm) (C := RX1) (T := TX1) (N := 1) hx hb hts hinX1 hown hK.1 hP 0 rfl rfl 0 (by decide) (hts (.fieldLink RX1 9 "CairnShells$Sieve" "many" "[I") (by decide +kernel)) (fun _ h9 => h9) rfl dX1_all_15 ?_
      refine lv_iload_n hx hb dX1_all_18 rfl (lv_at hl 0 rfl) ?_
      refine my_iald (D := D) (j := k) hx hb hK hP 1 rfl (by omega) (by decide) dX1_all_19 ?_
      refine lv_iadd hx hb dX1_all_20 ?_
      refine lv_istore_n (lv' := [(1, .int (y + (mn k))), (2, .int (nI k)), (0, .ref qv)]) hx hb dX1_all_21 rfl hl (by decide) rfl (fun ls hl => ?_)
      refine lv_iinc (v := nI (k + 1)) (x := nI k) (lv' := [(2, .int (nI (k + 1))), (1, .int (y + (mn k))), (0, .ref qv)]) hx hb dX1_all_22 hl (k := 1) rfl (nI_1 k) (by decide) rfl (fun ls hl => ?_)
      refine lv_goto (tgt := 4) hx hb dX1_all_25 (by decide) ?_
      exact ih4 (k + 1) (y + (mn k)) (by omega) (by omega) (by subst ey; first | rfl | simp [sI, h1]) _ (lv_sub hl [0, 1, 2] rfl)
set_option maxHeartbeats 4000000 in
set_option maxRecDepth 100000 in
theorem c_X2_size (l : Launch) {D : va_G} {cA : ClassId} {H0 : Heap} {qs qal qbe qto qod qph N : Nat} (hP : va_P D vwCl [(qs, .inr (2, [.int (nI N), .ref qal, .ref qbe, .ref qto, .ref qod, .ref qph]))] H0) : RO l yX2_size wsX2_size 0 0 [.ref qs] D cA H0 (some (.int (nI N))) := by
  refine RO_of (cc := cX2_size) (maxL := 1) (ret := (some .int)) (by decide) rfl (Nat.le_of_ble_eq_true rfl) ?_
  intro p e s m below meth c ls hx hb hml hr hown hts hlk hH hK hl
  have hown : s.vm.findClass RX2 = some m.cls := hown
  have hl : lv_has ls 1 [(0, .ref qs)] := hl
  have hinX2 : ∀ w ∈ wsX20, w ∈ wsX2_size := by decide +kernel
  refine lv_aload_n hx hb dX2_size_0 rfl (lv_at hl 0 rfl) ?_
  refine va_get (D := D) (ci := 2) (v := .int (nI N)) (C := RX2) (T := TX2) (N := 6) hx hb hts hinX2 hown hK.1 hP 0 rfl rfl 0 (by decide) (hts (.fieldLink RX2 27 "CairnShells$Strata" "layers" "I") (by decide +kernel)) (fun _ h9 => h9) rfl dX2_size_1 ?_
  exact RO_zret hx hb hr hlk hH dX2_size_4 (by rfl) rfl
set_option maxHeartbeats 4000000 in
set_option maxRecDepth 100000 in
theorem c_X2_alike (l : Launch) {D : va_G} {cA : ClassId} {H0 : Heap} {qs qal qbe qto qod qph N : Nat} {al : Nat → Int32} (j : Nat) (hj : j < 14) (hP : va_P D vwCl [(qs, .inr (2, [.int (nI N), .ref qal, .ref qbe, .ref qto, .ref qod, .ref qph])), (qal, .inl (cA, 14, .inl al))] H0) : RO l yX2_alike wsX2_alike 0 0 [.ref qs, .int (nI j)] D cA H0 (some (.int (al j))) := by
  refine RO_of (cc := cX2_alike) (maxL := 2) (ret := (some .int)) (by decide) rfl (Nat.le_of_ble_eq_true rfl) ?_
  intro p e s m below meth c ls hx hb hml hr hown hts hlk hH hK hl
  have hown : s.vm.findClass RX2 = some m.cls := hown
  have hl : lv_has ls 2 [(0, .ref qs), (1, .int (nI j))] := hl
  have hinX2 : ∀ w ∈ wsX20, w ∈ wsX2_alike := by decide +kernel
  refine lv_aload_n hx hb dX2_alike_0 rfl (lv_at hl 0 rfl) ?_
  refine va_get (D := D) (ci := 2) (v := .ref qal) (C := RX2) (T := TX2) (N := 6) hx hb hts hinX2 hown hK.1 hP 0 rfl rfl 1 (by decide) (hts (.fieldLink RX2 9 "CairnShells$Strata" "alikes" "[I") (by decide +kernel)) (fun _ h9 => h9) rfl dX2_alike_1 ?_
  refine lv_iload_n hx hb dX2_alike_4 rfl (lv_at hl 1 rfl) ?_
  refine my_iald (D := D) (j := j) hx hb hK hP 1 rfl (by omega) (by decide) dX2_alike_5 ?_
  exact RO_zret hx hb hr hlk hH dX2_alike_6 (by rfl) rfl
set_option maxHeartbeats 4000000 in
set_option maxRecDepth 100000 in
theorem c_X2_below (l : Launch) {D : va_G} {cA : ClassId} {H0 : Heap} {qs qal qbe qto qod qph N : Nat} {be : Nat → Int32} (j : Nat) (hj : j < 14) (hP : va_P D vwCl [(qs, .inr (2, [.int (nI N), .ref qal, .ref qbe, .ref qto, .ref qod, .ref qph])), (qbe, .inl (cA, 14, .inl be))] H0) : RO l yX2_below wsX2_below 0 0 [.ref qs, .int (nI j)] D cA H0 (some (.int (be j))) := by
  refine RO_of (cc := cX2_below) (maxL := 2) (ret := (some .int)) (by decide) rfl (Nat.le_of_ble_eq_true rfl) ?_
  intro p e s m below meth c ls hx hb hml hr hown hts hlk hH hK hl
  have hown : s.vm.findClass RX2 = some m.cls := hown
  have hl : lv_has ls 2 [(0, .ref qs), (1, .int (nI j))] := hl
  have hinX2 : ∀ w ∈ wsX20, w ∈ wsX2_below := by decide +kernel
  refine lv_aload_n hx hb dX2_below_0 rfl (lv_at hl 0 rfl) ?_
  refine va_get (D := D) (ci := 2) (v := .ref qbe) (C := RX2) (T := TX2) (N := 6) hx hb hts hinX2 hown hK.1 hP 0 rfl rfl 2 (by decide) (hts (.fieldLink RX2 15 "CairnShells$Strata" "belows" "[I") (by decide +kernel)) (fun _ h9 => h9) rfl dX2_below_1 ?_
  refine lv_iload_n hx hb dX2_below_4 rfl (lv_at hl 1 rfl) ?_
  refine my_iald (D := D) (j := j) hx hb hK hP 1 rfl (by omega) (by decide) dX2_below_5 ?_
  exact RO_zret hx hb hr hlk hH dX2_below_6 (by rfl) rfl
set_option maxHeartbeats 4000000 in
set_option maxRecDepth 100000 in
theorem c_X2_onTop (l : Launch) {D : va_G} {cA : ClassId} {H0 : Heap} {qs qal qbe qto qod qph N : Nat} {to : Nat → Int32} (j : Nat) (hj : j < 14) (hP : va_P D vwCl [(qs, .inr (2, [.int (nI N), .ref qal, .ref qbe, .ref qto, .ref qod, .ref qph])), (qto, .inl (cA, 14, .inl to))] H0) : RO l yX2_onTop wsX2_onTop 0 0 [.ref qs, .int (nI j)] D cA H0 (some (.int (to j))) := by
  refine RO_of (cc := cX2_onTop) (maxL := 2) (ret := (some .int)) (by decide) rfl (Nat.le_of_ble_eq_true rfl) ?_
  intro p e s m below meth c ls hx hb hml hr hown hts hlk hH hK hl
  have hown : s.vm.findClass RX2 = some m.cls := hown
  have hl : lv_has ls 2 [(0, .ref qs), (1, .int (nI j))] := hl
  have hinX2 : ∀ w ∈ wsX20, w ∈ wsX2_onTop := by decide +kernel
  refine lv_aload_n hx hb dX2_onTop_0 rfl (lv_at hl 0 rfl) ?_
  refine va_get (D := D) (ci := 2) (v := .ref qto) (C := RX2) (T := TX2) (N := 6) hx hb hts hinX2 hown hK.1 hP 0 rfl rfl 3 (by decide) (hts (.fieldLink RX2 18 "CairnShells$Strata" "tops" "[I") (by decide +kernel)) (fun _ h9 => h9) rfl dX2_onTop_1 ?_
  refine lv_iload_n hx hb dX2_onTop_4 rfl (lv_at hl 1 rfl) ?_
  refine my_iald (D := D) (j := j) hx hb hK hP 1 rfl (by omega) (by decide) dX2_onTop_5 ?_
  exact RO_zret hx hb hr hlk hH dX2_onTop_6 (by rfl) rfl
set_option maxHeartbeats 4000000 in
set_option maxRecDepth 100000 in
theorem c_X2_placed (l : Launch) {D : va_G} {cA : ClassId} {H0 : Heap} {qs qal qbe qto qod qph N : Nat} {od : Nat → Int32} (j : Nat) (hj : j < 14) (hP : va_P D vwCl [(qs, .inr (2, [.int (nI N), .ref qal, .ref qbe, .ref qto, .ref qod, .ref qph])), (qod, .inl (cA, 14, .inl od))] H0) : RO l yX2_placed wsX2_placed 0 0 [.ref qs, .int (nI j)] D cA H0 (some (.int (od j))) := by
  refine RO_of (cc := cX2_placed) (maxL := 2) (ret := (some .int)) (by decide) rfl (Nat.le_of_ble_eq_true rfl) ?_
  intro p e s m below meth c ls hx hb hml hr hown hts hlk hH hK hl
  have hown : s.vm.findClass RX2 = some m.cls := hown
  have hl : lv_has ls 2 [(0, .ref qs), (1, .int (nI j))] := hl
  have hinX2 : ∀ w ∈ wsX20, w ∈ wsX2_placed := by decide +kernel
  refine lv_aload_n hx hb dX2_placed_0 rfl (lv_at hl 0 rfl) ?_
  refine va_get (D := D) (ci := 2) (v := .ref qod) (C := RX2) (T := TX2) (N := 6) hx hb hts hinX2 hown hK.1 hP 0 rfl rfl 4 (by decide) (hts (.fieldLink RX2 21 "CairnShells$Strata" "order" "[I") (by decide +kernel)) (fun _ h9 => h9) rfl dX2_placed_1 ?_
  refine lv_iload_n hx hb dX2_placed_4 rfl (lv_at hl 1 rfl) ?_
  refine my_iald (D := D) (j := j) hx hb hK hP 1 rfl (by omega) (by decide) dX2_placed_5 ?_
  exact RO_zret hx hb hr hlk hH dX2_placed_6 (by rfl) rfl
set_option maxHeartbeats 4000000 in
set_option maxRecDepth 100000 in
theorem c_X2_phase (l : Launch) {D : va_G} {cA : ClassId} {H0 : Heap} {qs qal qbe qto qod qph N : Nat} {ph : Nat → Int32} (j : Nat) (hj : j < 14) (hP : va_P D vwCl [(qs, .inr (2, [.int (nI N), .ref qal, .ref qbe, .ref qto, .ref qod, .ref qph])), (qph, .inl (cA, 14, .inl ph))] H0) : RO l yX2_phase wsX2_phase 0 0 [.ref qs, .int (nI j)] D cA H0 (some (.int (ph j))) := by
  refine RO_of (cc := cX2_phase) (maxL := 2) (ret := (some .int)) (by decide) rfl (Nat.le_of_ble_eq_true rfl) ?_
  intro p e s m below meth c ls hx hb hml hr hown hts hlk hH hK hl
  have hown : s.vm.findClass RX2 = some m.cls := hown
  have hl : lv_has ls 2 [(0, .ref qs), (1, .int (nI j))] := hl
  have hinX2 : ∀ w ∈ wsX20, w ∈ wsX2_phase := by decide +kernel
  refine lv_aload_n hx hb dX2_phase_0 rfl (lv_at hl 0 rfl) ?_
  refine va_get (D := D) (ci := 2) (v := .ref qph) (C := RX2) (T := TX2) (N := 6) hx hb hts hinX2 hown hK.1 hP 0 rfl rfl 5 (by decide) (hts (.fieldLink RX2 24 "CairnShells$Strata" "phaseOf" "[I") (by decide +kernel)) (fun _ h9 => h9) rfl dX2_phase_1 ?_
  refine lv_iload_n hx hb dX2_phase_4 rfl (lv_at hl 1 rfl) ?_
  refine my_iald (D := D) (j := j) hx hb hK hP 1 rfl (by omega) (by decide) dX2_phase_5 ?_
  exact RO_zret hx hb hr hlk hH dX2_phase_6 (by rfl) rfl
set_option maxHeartbeats 4000000 in
set_option maxRecDepth 100000 in
theorem c_X2_isLater (l : Launch) {D : va_G} {cA : ClassId} {H0 : Heap} {qs qal qbe qto qod qph N : Nat} {be : Nat → Int32} (i : Nat) (j : Nat) (hi : i < 14) (hj : j < 14) (hP : va_P D vwCl [(qs, .inr (2, [.int (nI N), .ref qal, .ref qbe, .ref qto, .ref qod, .ref qph])), (qbe, .inl (cA, 14, .inl be))] H0) : RO l yX2_isLater wsX2_isLater 1 21 [.ref qs, .int (nI i), .int (nI j)] D cA H0 (some (.int (bI (bt (be i) j)))) := by
  refine RO_of (cc := cX2_isLater) (maxL := 3) (ret := (some .boolean)) (by decide) rfl (Nat.le_of_ble_eq_true rfl) ?_
  intro p e s m below meth c ls hx hb hml hr hown hts hlk hH hK hl
  have hown : s.vm.findClass RX2 = some m.cls := hown
  have hl : lv_has ls 3 [(0, .ref qs), (1, .int (nI i)), (2, .int (nI j))] := hl
  have hinX2 : ∀ w ∈ wsX20, w ∈ wsX2_isLater := by decide +kernel
  refine lv_aload_n hx hb dX2_isLater_0 rfl (lv_at hl 0 rfl) ?_
  refine va_get (D := D) (ci := 2) (v := .ref qbe) (C := RX2) (T := TX2) (N := 6) hx hb hts hinX2 hown hK.1 hP 0 rfl rfl 2 (by decide) (hts (.fieldLink RX2 15 "CairnShells$Strata" "belows" "[I") (by decide +kernel)) (fun _ h9 => h9) rfl dX2_isLater_1 ?_
  refine lv_iload_n hx hb dX2_isLater_4 rfl (lv_at hl 1 rfl) ?_
  refine my_iald (D := D) (j := i) hx hb hK hP 1 rfl (by omega) (by decide) dX2_isLater_5 ?_
  refine lv_iload_n hx hb dX2_isLater_6 rfl (lv_at hl 2 rfl) ?_
  refine RO_go (va_runSN (As := [.int (be i), .int (nI j)]) (rest := []) ⟨hx, hb, hml, hown, hts⟩ (c_X3_has l (D := D) (cA := cA) (H0 := H0) (x := be i) (j := j) (hj := by omega)) ⟨va_cnB 2 hts gX2_isLater_X3_has_n31 rfl rfl rfl hK.2.2.2 (hts (.initialized RX3) (by decide +kernel)) (by decide +kernel) ⟨Nat.le_of_ble_eq_true rfl, Nat.le_of_ble_eq_true rfl⟩, (hts (.static yX3_has) (by decide +kernel)), trivial⟩ (cP_S hK) rfl rfl hl.1 rfl (lv_room (Nat.le_of_ble_eq_true rfl)) dX2_isLater_7 ⟨by omega, by omega⟩) ?_
  exact RO_zret hx hb hr hlk hH dX2_isLater_10 (bI_nar _) rfl
set_option maxHeartbeats 4000000 in
set_option maxRecDepth 100000 in
theorem c_X2_refusesAbove (l : Launch) {D : va_G} {cA : ClassId} {H0 : Heap} {qs qal qbe qto qod qph N : Nat} {al be : Nat → Int32} (i : Nat) (j : Nat) (hi : i < 14) (hj : j < 14) (hP : va_P D vwCl [(qs, .inr (2, [.int (nI N), .ref qal, .ref qbe, .ref qto, .ref qod, .ref qph])), (qal, .inl (cA, 14, .inl al)), (qbe, .inl (cA, 14, .inl be))] H0) : RO l yX2_refusesAbove wsX2_refusesAbove 2 43 [.ref qs, .int (nI i), .int (nI j)] D cA H0 (some (.int (bI (bt (al i) j || bt (be j) i)))) := by
  refine RO_of (cc := cX2_refusesAbove) (maxL := 3) (ret := (some .boolean)) (by decide) rfl (Nat.le_of_ble_eq_true rfl) ?_
  intro p e s m below meth c ls hx hb hml hr hown hts hlk hH hK hl
  have hown : s.vm.findClass RX2 = some m.cls := hown
  have hl : lv_has ls 3 [(0, .ref qs), (1, .int (nI i)), (2, .int (nI j))] := hl
  have hinX2 : ∀ w ∈ wsX20, w ∈ wsX2_refusesAbove := by decide +kernel
  refine lv_aload_n hx hb dX2_refusesAbove_0 rfl (lv_at hl 0 rfl) ?_
  refine va_get (D := D) (ci := 2) (v := .ref qal) (C := RX2) (T := TX2) (N := 6) hx hb hts hinX2 hown hK.1 hP 0 rfl rfl 1 (by decide) (hts (.fieldLink RX2 9 "CairnShells$Strata" "alikes" "[I") (by decide +kernel)) (fun _ h9 => h9) rfl dX2_refusesAbove_1 ?_
  refine lv_iload_n hx hb dX2_refusesAbove_4 rfl (lv_at hl 1 rfl) ?_
  refine my_iald (D := D) (j := i) hx hb hK hP 1 rfl (by omega) (by decide) dX2_refusesAbove_5 ?_
  refine lv_iload_n hx hb dX2_refusesAbove_6 rfl (lv_at hl 2 rfl) ?_
  refine RO_go (va_runSN (As := [.int (al i), .int (nI j)]) (rest := []) ⟨hx, hb, hml, hown, hts⟩ (c_X3_has l (D := D) (cA := cA) (H0 := H0) (x := al i) (j := j) (hj := by omega)) ⟨va_cnB 2 hts gX2_refusesAbove_X3_has_n31 rfl rfl rfl hK.2.2.2 (hts (.initialized RX3) (by decide +kernel)) (by decide +kernel) ⟨Nat.le_of_ble_eq_true rfl, Nat.le_of_ble_eq_true rfl⟩, (hts (.static yX3_has) (by decide +kernel)), trivial⟩ (cP_S hK) rfl rfl hl.1 rfl (lv_room (Nat.le_of_ble_eq_true rfl)) dX2_refusesAbove_7 ⟨by omega, by omega⟩) ?_
  refine my_ifne_b (tgt := 22) hx hb dX2_refusesAbove_10 (by decide) (fun h1 => ?_) (fun h1 => ?_)
  · refine lv_iconst (v := 1) hx hb dX2_refusesAbove_22 (by decide) ?_
    refine lv_goto (tgt := 27) hx hb dX2_refusesAbove_23 (by decide) ?_
    exact RO_zret hx hb hr hlk hH dX2_refusesAbove_27 (by decide) (by first | exact bI_of h1 | exact bI_no h1 | simp [bI, h1])
  · refine lv_aload_n hx hb dX2_refusesAbove_13 rfl (lv_at hl 0 rfl) ?_
    refine lv_iload_n hx hb dX2_refusesAbove_14 rfl (lv_at hl 2 rfl) ?_
    refine lv_iload_n hx hb dX2_refusesAbove_15 rfl (lv_at hl 1 rfl) ?_
    refine RO_go (va_runV (As := [.int (nI j), .int (nI i)]) (rest := []) ⟨hx, hb, hml, hown, hts⟩ (c_X2_isLater l (D := D) (cA := cA) (H0 := H0) (i := j) (j := i) (hi := by omega) (hj := by omega) (hP := hP.sub (ws' := [(qs, .inr (2, [.int (nI N), .ref qal, .ref qbe, .ref qto, .ref qod, .ref qph])), (qbe, .inl (cA, 14, .inl be))]) [0, 2] rfl)) (cwV 2 hts gX2_refusesAbove_X2_isLater rfl rfl rfl (by decide +kernel) ⟨Nat.le_of_ble_eq_true rfl, Nat.le_of_ble_eq_true rfl⟩) (cP_V hK (va_recv hK.1 hP (ci := 2) (q0 := 0) rfl rfl)) rfl rfl hl.1 rfl (lv_room (Nat.le_of_ble_eq_true rfl)) dX2_refusesAbove_16 ⟨by omega, by omega⟩) ?_
    refine my_ifeq_b (tgt := 26) hx hb dX2_refusesAbove_19 (by decide) (fun h2 => ?_) (fun h2 => ?_)
    · refine lv_iconst (v := 0) hx hb dX2_refusesAbove_26 (by decide) ?_
      exact RO_zret hx hb hr hlk hH dX2_refusesAbove_27 (by decide) (by first | exact bI_of h2 | exact bI_no h2 | simp [bI, h1, h2])
    · refine lv_iconst (v := 1) hx hb dX2_refusesAbove_22 (by decide) ?_
      refine lv_goto (tgt := 27) hx hb dX2_refusesAbove_23 (by decide) ?_
      exact RO_zret hx hb hr hlk hH dX2_refusesAbove_27 (by decide) (by first | exact bI_of h2 | exact bI_no h2 | simp [bI, h1, h2])
set_option maxHeartbeats 4000000 in
set_option maxRecDepth 100000 in
theorem c_X2_lowestFree (l : Launch) {D : va_G} {cA : ClassId} {H0 : Heap} {qs qal qbe qto qod qph N : Nat} {be : Nat → Int32} (x : Int32) (hN1 : 1 ≤ N) (hN : N ≤ 14) (hP : va_P D vwCl [(qs, .inr (2, [.int (nI N), .ref qal, .ref qbe, .ref qto, .ref qod, .ref qph])), (qbe, .inl (cA, 14, .inl be))] H0) : RO l yX2_lowestFree wsX2_lowestFree 1 21 [.ref qs, .int x] D cA H0 (some (.int (nI (fnd (fre be x) (N - 1))))) := by
  refine RO_of (cc := cX2_lowestFree) (maxL := 3) (ret := (some .int)) (by decide) rfl (Nat.le_of_ble_eq_true rfl) ?_
  intro p e s m below meth c ls hx hb hml hr hown hts hlk hH hK hl
  have hown : s.vm.findClass RX2 = some m.cls := hown
  have hl : lv_has ls 3 [(0, .ref qs), (1, .int x)] := hl
  have hinX2 : ∀ w ∈ wsX20, w ∈ wsX2_lowestFree := by decide +kernel
  refine lv_iconst (v := 0) hx hb dX2_lowestFree_0 (by decide) ?_
  refine lv_istore_n (lv' := [(2, .int 0), (0, .ref qs), (1, .int x)]) hx hb dX2_lowestFree_1 rfl hl (by decide) rfl (fun ls hl => ?_)
  suffices loop : ∀ (n k : Nat), k ≤ (N - 1) → (N - 1) < k + n → (∀ j, j < k → fre be x j = false) → ∀ ls, lv_has ls 3 [(2, .int (nI k)), (0, .ref qs), (1, .int x)] → W p l e { frames := 1, cells := 0, slots := 0, locals := 21 } s m ([.ref qs, .int x] : List Value).toArray below meth c H0 [] 0 0 (MQ below (roQ (some (.int (nI (fnd (fre be x) (N - 1))))) H0) ([.ref qs, .int x] : List Value).toArray s 0 0 (fun _ => False)) (F0 m 2 ls []) from loop ((N - 1) + 1) 0  (by omega) (by omega) (fun j hj => absurd hj (Nat.not_lt_zero j)) _ (lv_sub hl [0, 1, 2] rfl)
  intro n
  induction n with
  | zero => intro k  hk1 hk2; exact absurd hk2 (by omega)
  | succ n ih2 =>
    intro k  hk2 hn2 hinv ls hl
    refine lv_iload_n hx hb dX2_lowestFree_2 rfl (lv_at hl 0 rfl) ?_
    refine lv_aload_n hx hb dX2_lowestFree_3 rfl (lv_at hl 1 rfl) ?_
    refine va_get (D := D) (ci := 2) (v := .int (nI N)) (C := RX2) (T := TX2) (N := 6) hx hb hts hinX2 hown hK.1 hP 0 rfl rfl 0 (by decide) (hts (.fieldLink RX2 27 "CairnShells$Strata" "layers" "I") (by decide +kernel)) (fun _ h9 => h9) rfl dX2_lowestFree_4 ?_
    refine lv_iconst (v := 1) hx hb dX2_lowestFree_7 (by decide) ?_
    refine my_isubN (x := N) (y := 1) hx hb dX2_lowestFree_8 (by omega) ?_
    refine my_geN (x := k) (y := N - 1) (tgt := 37) hx hb dX2_lowestFree_9 (by decide) (by omega) (by omega) (fun h1 => ?_) (fun h1 => ?_)
    · refine lv_iload_n hx hb dX2_lowestFree_37 rfl (lv_at hl 0 rfl) ?_
      exact RO_zret hx hb hr hlk hH dX2_lowestFree_38 (by rfl) (by rw [fnd_at (by omega) hinv (fun q => by first | (exfalso; omega) | simp [fre, h1])])
    · refine lv_iload_n hx hb dX2_lowestFree_12 rfl (lv_at hl 2 rfl) ?_
      refine lv_iload_n hx hb dX2_lowestFree_13 rfl (lv_at hl 0 rfl) ?_
      refine RO_go (va_runSN (As := [.int x, .int (nI k)]) (rest := []) ⟨hx, hb, hml, hown, hts⟩ (c_X3_has l (D := D) (cA := cA) (H0 := H0) (x := x) (j := k) (hj := by omega)) ⟨va_cnB 2 hts gX2_lowestFree_X3_has_n31 rfl rfl rfl hK.2.2.2 (hts (.initialized RX3) (by decide +kernel)) (by decide +kernel) ⟨Nat.le_of_ble_eq_true rfl, Nat.le_of_ble_eq_true rfl⟩, (hts (.static yX3_has) (by decide +kernel)), trivial⟩ (cP_S hK) rfl rfl hl.1 rfl (lv_room (Nat.le_of_ble_eq_true rfl)) dX2_lowestFree_14 ⟨by omega, by omega⟩) ?_
      refine my_ifeq_b (tgt := 31) hx hb dX2_lowestFree_17 (by decide) (fun h2 => ?_) (fun h2 => ?_)
      · refine lv_iinc (v := nI (k + 1)) (x := nI k) (lv' := [(2, .int (nI (k + 1))), (0, .ref qs), (1, .int x)]) hx hb dX2_lowestFree_31 hl (k := 0) rfl (nI_1 k) (by decide) rfl (fun ls hl => ?_)
        refine lv_goto (tgt := 2) hx hb dX2_lowestFree_34 (by decide) ?_
        exact ih2 (k + 1)  (by omega) (by omega) (fun j hj => (Nat.lt_succ_iff_lt_or_eq.mp hj).elim (fun q => hinv j q) (fun q => by rw [q]; simp [fre, h1, h2])) _ (lv_sub hl [0, 1, 2] rfl)
      · refine lv_aload_n hx hb dX2_lowestFree_20 rfl (lv_at hl 1 rfl) ?_
        refine va_get (D := D) (ci := 2) (v := .ref qbe) (C := RX2) (T := TX2) (N := 6) hx hb hts hinX2 hown hK.1 hP 0 rfl rfl 2 (by decide) (hts (.fieldLink RX2 15 "CairnShells$Strata" "belows" "[I") (by decide +kernel)) (fun _ h9 => h9) rfl dX2_lowestFree_21 ?_
        refine lv_iload_n hx hb dX2_lowestFree_24 rfl (lv_at hl 0 rfl) ?_
        refine my_iald (D := D) (j := k) hx hb hK hP 1 rfl (by omega) (by decide) dX2_lowestFree_25 ?_
        refine lv_iload_n hx hb dX2_lowestFree_26 rfl (lv_at hl 2 rfl) ?_
        refine lv_iand hx hb dX2_lowestFree_27 ?_
        refine lv_if_eq (tgt := 37) hx hb dX2_lowestFree_28 (by decide) (fun h3 => ?_) (fun h3 => ?_)
        · refine lv_iload_n hx hb dX2_lowestFree_37 rfl (lv_at hl 0 rfl) ?_
          exact RO_zret hx hb hr hlk hH dX2_lowestFree_38 (by rfl) (by rw [fnd_at (by omega) hinv (fun q => by first | (exfalso; omega) | simp [fre, h1, h2, h3])])
        · refine lv_iinc (v := nI (k + 1)) (x := nI k) (lv' := [(2, .int (nI (k + 1))), (0, .ref qs), (1, .int x)]) hx hb dX2_lowestFree_31 hl (k := 0) rfl (nI_1 k) (by decide) rfl (fun ls hl => ?_)
          refine lv_goto (tgt := 2) hx hb dX2_lowestFree_34 (by decide) ?_
          exact ih2 (k + 1)  (by omega) (by omega) (fun j hj => (Nat.lt_succ_iff_lt_or_eq.mp hj).elim (fun q => hinv j q) (fun q => by rw [q]; simp [fre, h1, h2, h3])) _ (lv_sub hl [0, 1, 2] rfl)
set_option maxHeartbeats 4000000 in
set_option maxRecDepth 100000 in
theorem c_X2_phaseOver (l : Launch) {D : va_G} {cA : ClassId} {H0 : Heap} {qs qal qbe qto qod qph N : Nat} {ph : Nat → Int32} (x : Int32) (hN : N ≤ 14) (hP : va_P D vwCl [(qs, .inr (2, [.int (nI N), .ref qal, .ref qbe, .ref qto, .ref qod, .ref qph])), (qph, .inl (cA, 14, .inl ph))] H0) : RO l yX2_phaseOver wsX2_phaseOver 1 21 [.ref qs, .int x] D cA H0 (some (.int (pO ph x N))) := by
  refine RO_of (cc := cX2_phaseOver) (maxL := 4) (ret := (some .int)) (by decide) rfl (Nat.le_of_ble_eq_true rfl) ?_
  intro p e s m below meth c ls hx hb hml hr hown hts hlk hH hK hl
  have hown : s.vm.findClass RX2 = some m.cls := hown
  have hl : lv_has ls 4 [(0, .ref qs), (1, .int x)] := hl
  have hinX2 : ∀ w ∈ wsX20, w ∈ wsX2_phaseOver := by decide +kernel
  refine lv_iconst (v := 0) hx hb dX2_phaseOver_0 (by decide) ?_
  refine lv_istore_n (lv' := [(2, .int 0), (0, .ref qs), (1, .int x)]) hx hb dX2_phaseOver_1 rfl hl (by decide) rfl (fun ls hl => ?_)
  refine lv_iconst (v := 0) hx hb dX2_phaseOver_2 (by decide) ?_
  refine lv_istore_n (lv' := [(3, .int 0), (2, .int 0), (0, .ref qs), (1, .int x)]) hx hb dX2_phaseOver_3 rfl hl (by decide) rfl (fun ls hl => ?_)
  suffices loop : ∀ (n k : Nat) (y : Int32), k ≤ N → N < k + n → y = pO ph x k → ∀ ls, lv_has ls 4 [(3, .int (nI k)), (2, .int y), (0, .ref qs), (1, .int x)] → W p l e { frames := 1, cells := 0, slots := 0, locals := 21 } s m ([.ref qs, .int x] : List Value).toArray below meth c H0 [] 0 0 (MQ below (roQ (some (.int (pO ph x N))) H0) ([.ref qs, .int x] : List Value).toArray s 0 0 (fun _ => False)) (F0 m 4 ls []) from loop (N + 1) 0 0 (by omega) (by omega) (by first | rfl | simp []) _ (lv_sub hl [0, 1, 2, 3] rfl)
  intro n
  induction n with
  | zero => intro k y hk1 hk2; exact absurd hk2 (by omega)
  | succ n ih4 =>
    intro k y hk4 hn4 ey ls hl
    refine lv_iload_n hx hb dX2_phaseOver_4 rfl (lv_at hl 0 rfl) ?_
    refine lv_aload_n hx hb dX2_phaseOver_5 rfl (lv_at hl 2 rfl) ?_
    refine va_get (D := D) (ci := 2) (v := .int (nI N)) (C := RX2) (T := TX2) (N := 6) hx hb hts hinX2 hown hK.1 hP 0 rfl rfl 0 (by decide) (hts (.fieldLink RX2 27 "CairnShells$Strata" "layers" "I") (by decide +kernel)) (fun _ h9 => h9) rfl dX2_phaseOver_6 ?_
    refine my_geN (x := k) (y := N) (tgt := 39) hx hb dX2_phaseOver_9 (by decide) (by omega) (by omega) (fun h1 => ?_) (fun h1 => ?_)
    · obtain rfl : N = k := by omega
      subst ey
      refine lv_iload_n hx hb dX2_phaseOver_39 rfl (lv_at hl 1 rfl) ?_
      exact RO_zret hx hb hr hlk hH dX2_phaseOver_40 (by rfl) (by first | rfl | simp [h1])
    · refine lv_iload_n hx hb dX2_phaseOver_12 rfl (lv_at hl 3 rfl) ?_
      refine lv_iload_n hx hb dX2_phaseOver_13 rfl (lv_at hl 0 rfl) ?_
      refine RO_go (va_runSN (As := [.int x, .int (nI k)]) (rest := []) ⟨hx, hb, hml, hown, hts⟩ (c_X3_has l (D := D) (cA := cA) (H0 := H0) (x := x) (j := k) (hj := by omega)) ⟨va_cnB 2 hts gX2_phaseOver_X3_has_n31 rfl rfl rfl hK.2.2.2 (hts (.initialized RX3) (by decide +kernel)) (by decide +kernel) ⟨Nat.le_of_ble_eq_true rfl, Nat.le_of_ble_eq_true rfl⟩, (hts (.static yX3_has) (by decide +kernel)), trivial⟩ (cP_S hK) rfl rfl hl.1 rfl (lv_room (Nat.le_of_ble_eq_true rfl)) dX2_phaseOver_14 ⟨by omega, by omega⟩) ?_
      refine my_ifeq_b (tgt := 33) hx hb dX2_phaseOver_17 (by decide) (fun h2 => ?_) (fun h2 => ?_)
      · refine lv_iinc (v := nI (k + 1)) (x := nI k) (lv' := [(3, .int (nI (k + 1))), (2, .int y), (0, .ref qs), (1, .int x)]) hx hb dX2_phaseOver_33 hl (k := 0) rfl (nI_1 k) (by decide) rfl (fun ls hl => ?_)
        refine lv_goto (tgt := 4) hx hb dX2_phaseOver_36 (by decide) ?_
        exact ih4 (k + 1) y (by omega) (by omega) (by subst ey; first | rfl | simp [pO, h1, h2]) _ (lv_sub hl [0, 1, 2, 3] rfl)
      · refine lv_iload_n hx hb dX2_phaseOver_20 rfl (lv_at hl 1 rfl) ?_
        refine lv_aload_n hx hb dX2_phaseOver_21 rfl (lv_at hl 2 rfl) ?_
        refine va_get (D := D) (ci := 2) (v := .ref qph) (C := RX2) (T := TX2) (N := 6) hx hb hts hinX2 hown hK.1 hP 0 rfl rfl 5 (by decide) (hts (.fieldLink RX2 24 "CairnShells$Strata" "phaseOf" "[I") (by decide +kernel)) (fun _ h9 => h9) rfl dX2_phaseOver_22 ?_
        refine lv_iload_n hx hb dX2_phaseOver_25 rfl (lv_at hl 0 rfl) ?_
        refine my_iald (D := D) (j := k) hx hb hK hP 1 rfl (by omega) (by decide) dX2_phaseOver_26 ?_
        refine lv_iconst (v := 1) hx hb dX2_phaseOver_27 (by decide) ?_
        refine lv_iadd hx hb dX2_phaseOver_28 ?_
        refine va_mmax hx hb (hml.trans hl.1.symm) hown (hts (.methodLink RX2 52 Lib.Math.max.name) (by decide +kernel)) (hts (.static Lib.Math.max.name) (by decide +kernel)) (hts (.initialized "java/lang/Math") (by decide +kernel)) (hts (.code Lib.Math.max.name Lib.Math.max.code 2 (some .int)) (by decide +kernel)) (Nat.le_of_ble_eq_true rfl) (Nat.le_of_ble_eq_true rfl) (by omega) (by omega) dX2_phaseOver_29 ?_
        refine lv_istore_n (lv' := [(2, .int (imax y ((ph k) + 1))), (3, .int (nI k)), (0, .ref qs), (1, .int x)]) hx hb dX2_phaseOver_32 rfl hl (by decide) rfl (fun ls hl => ?_)
        refine lv_iinc (v := nI (k + 1)) (x := nI k) (lv' := [(3, .int (nI (k + 1))), (2, .int (imax y ((ph k) + 1))), (0, .ref qs), (1, .int x)]) hx hb dX2_phaseOver_33 hl (k := 1) rfl (nI_1 k) (by decide) rfl (fun ls hl => ?_)
        refine lv_goto (tgt := 4) hx hb dX2_phaseOver_36 (by decide) ?_
        exact ih4 (k + 1) (imax y ((ph k) + 1)) (by omega) (by omega) (by subst ey; first | rfl | simp [pO, h1, h2]) _ (lv_sub hl [0, 1, 2, 3] rfl)
set_option maxHeartbeats 4000000 in
set_option maxRecDepth 100000 in
theorem c_X2_phases (l : Launch) {D : va_G} {cA : ClassId} {H0 : Heap} {qs qal qbe qto qod qph N : Nat} {ph : Nat → Int32} (hN : N ≤ 14) (hP : va_P D vwCl [(qs, .inr (2, [.int (nI N), .ref qal, .ref qbe, .ref qto, .ref qod, .ref qph])), (qph, .inl (cA, 14, .inl ph))] H0) : RO l yX2_phases wsX2_phases 1 21 [.ref qs] D cA H0 (some (.int (phs ph N))) := by
  refine RO_of (cc := cX2_phases) (maxL := 3) (ret := (some .int)) (by decide) rfl (Nat.le_of_ble_eq_true rfl) ?_
  intro p e s m below meth c ls hx hb hml hr hown hts hlk hH hK hl
  have hown : s.vm.findClass RX2 = some m.cls := hown
  have hl : lv_has ls 3 [(0, .ref qs)] := hl
  have hinX2 : ∀ w ∈ wsX20, w ∈ wsX2_phases := by decide +kernel
  refine lv_iconst (v := 0) hx hb dX2_phases_0 (by decide) ?_
  refine lv_istore_n (lv' := [(1, .int 0), (0, .ref qs)]) hx hb dX2_phases_1 rfl hl (by decide) rfl (fun ls hl => ?_)
  refine lv_iconst (v := 0) hx hb dX2_phases_2 (by decide) ?_
  refine lv_istore_n (lv' := [(2, .int 0), (1, .int 0), (0, .ref qs)]) hx hb dX2_phases_3 rfl hl (by decide) rfl (fun ls hl => ?_)
  suffices loop : ∀ (n k : Nat) (y : Int32), k ≤ N → N < k + n → y = phs ph k → ∀ ls, lv_has ls 3 [(2, .int (nI k)), (1, .int y), (0, .ref qs)] → W p l e { frames := 1, cells := 0, slots := 0, locals := 21 } s m ([.ref qs] : List Value).toArray below meth c H0 [] 0 0 (MQ below (roQ (some (.int (phs ph N))) H0) ([.ref qs] : List Value).toArray s 0 0 (fun _ => False)) (F0 m 4 ls []) from loop (N + 1) 0 0 (by omega) (by omega) (by first | rfl | simp []) _ (lv_sub hl [0, 1, 2] rfl)
  intro n
  induction n with
  | zero => intro k y hk1 hk2; exact absurd hk2 (by omega)
  | succ n ih4 =>
    intro k y hk4 hn4 ey ls hl
    refine lv_iload_n hx hb dX2_phases_4 rfl (lv_at hl 0 rfl) ?_
    refine lv_aload_n hx hb dX2_phases_5 rfl (lv_at hl 2 rfl) ?_
    refine va_get (D := D) (ci := 2) (v := .int (nI N)) (C := RX2) (T := TX2) (N := 6) hx hb hts hinX2 hown hK.1 hP 0 rfl rfl 0 (by decide) (hts (.fieldLink RX2 27 "CairnShells$Strata" "layers" "I") (by decide +kernel)) (fun _ h9 => h9) rfl dX2_phases_6 ?_
    refine my_geN (x := k) (y := N) (tgt := 31) hx hb dX2_phases_9 (by decide) (by omega) (by omega) (fun h1 => ?_) (fun h1 => ?_)
    · obtain rfl : N = k := by omega
      subst ey
      refine lv_iload_n hx hb dX2_phases_31 rfl (lv_at hl 1 rfl) ?_
      exact RO_zret hx hb hr hlk hH dX2_phases_32 (by rfl) (by first | rfl | simp [h1])
    · refine lv_iload_n hx hb dX2_phases_12 rfl (lv_at hl 1 rfl) ?_
      refine lv_aload_n hx hb dX2_phases_13 rfl (lv_at hl 2 rfl) ?_
      refine va_get (D := D) (ci := 2) (v := .ref qph) (C := RX2) (T := TX2) (N := 6) hx hb hts hinX2 hown hK.1 hP 0 rfl rfl 5 (by decide) (hts (.fieldLink RX2 24 "CairnShells$Strata" "phaseOf" "[I") (by decide +kernel)) (fun _ h9 => h9) rfl dX2_phases_14 ?_
      refine lv_iload_n hx hb dX2_phases_17 rfl (lv_at hl 0 rfl) ?_
      refine my_iald (D := D) (j := k) hx hb hK hP 1 rfl (by omega) (by decide) dX2_phases_18 ?_
      refine lv_iconst (v := 1) hx hb dX2_phases_19 (by decide) ?_
      refine lv_iadd hx hb dX2_phases_20 ?_
      refine va_mmax hx hb (hml.trans hl.1.symm) hown (hts (.methodLink RX2 52 Lib.Math.max.name) (by decide +kernel)) (hts (.static Lib.Math.max.name) (by decide +kernel)) (hts (.initialized "java/lang/Math") (by decide +kernel)) (hts (.code Lib.Math.max.name Lib.Math.max.code 2 (some .int)) (by decide +kernel)) (Nat.le_of_ble_eq_true rfl) (Nat.le_of_ble_eq_true rfl) (by omega) (by omega) dX2_phases_21 ?_
      refine lv_istore_n (lv' := [(1, .int (imax y ((ph k) + 1))), (2, .int (nI k)), (0, .ref qs)]) hx hb dX2_phases_24 rfl hl (by decide) rfl (fun ls hl => ?_)
      refine lv_iinc (v := nI (k + 1)) (x := nI k) (lv' := [(2, .int (nI (k + 1))), (1, .int (imax y ((ph k) + 1))), (0, .ref qs)]) hx hb dX2_phases_25 hl (k := 1) rfl (nI_1 k) (by decide) rfl (fun ls hl => ?_)
      refine lv_goto (tgt := 4) hx hb dX2_phases_28 (by decide) ?_
      exact ih4 (k + 1) (imax y ((ph k) + 1)) (by omega) (by omega) (by subst ey; first | rfl | simp [phs, h1]) _ (lv_sub hl [0, 1, 2] rfl)
set_option maxHeartbeats 4000000 in
set_option maxRecDepth 100000 in
theorem c_X2_pairs (l : Launch) {D : va_G} {cA : ClassId} {H0 : Heap} {qs qal qbe qto qod qph N : Nat} {be : Nat → Int32} (hN : N ≤ 14) (hsm : ∀ j, j < N → small (be j)) (hP : va_P D vwCl [(qs, .inr (2, [.int (nI N), .ref qal, .ref qbe, .ref qto, .ref qod, .ref qph])), (qbe, .inl (cA, 14, .inl be))] H0) : RO l yX2_pairs wsX2_pairs 1 20 [.ref qs] D cA H0 (some (.int (nI (prs be N)))) := by
  refine RO_of (cc := cX2_pairs) (maxL := 3) (ret := (some .int)) (by decide) rfl (Nat.le_of_ble_eq_true rfl) ?_
  intro p e s m below meth c ls hx hb hml hr hown hts hlk hH hK hl
  have hown : s.vm.findClass RX2 = some m.cls := hown
  have hl : lv_has ls 3 [(0, .ref qs)] := hl
  have hinX2 : ∀ w ∈ wsX20, w ∈ wsX2_pairs := by decide +kernel
  refine lv_iconst (v := 0) hx hb dX2_pairs_0 (by decide) ?_
  refine lv_istore_n (lv' := [(1, .int 0), (0, .ref qs)]) hx hb dX2_pairs_1 rfl hl (by decide) rfl (fun ls hl => ?_)
  refine lv_iconst (v := 0) hx hb dX2_pairs_2 (by decide) ?_
  refine lv_istore_n (lv' := [(2, .int 0), (1, .int 0), (0, .ref qs)]) hx hb dX2_pairs_3 rfl hl (by decide) rfl (fun ls hl => ?_)
  suffices loop : ∀ (n k : Nat) (y : Nat), k ≤ N → N < k + n → y = prs be k → ∀ ls, lv_has ls 3 [(2, .int (nI k)), (1, .int (nI y)), (0, .ref qs)] → W p l e { frames := 1, cells := 0, slots := 0, locals := 20 } s m ([.ref qs] : List Value).toArray below meth c H0 [] 0 0 (MQ below (roQ (some (.int (nI (prs be N)))) H0) ([.ref qs] : List Value).toArray s 0 0 (fun _ => False)) (F0 m 4 ls []) from loop (N + 1) 0 0 (by omega) (by omega) (by first | rfl | simp []) _ (lv_sub hl [0, 1, 2] rfl)
  intro n
  induction n with
  | zero => intro k y hk1 hk2; exact absurd hk2 (by omega)
  | succ n ih4 =>
    intro k y hk4 hn4 ey ls hl
    refine lv_iload_n hx hb dX2_pairs_4 rfl (lv_at hl 0 rfl) ?_
    refine lv_aload_n hx hb dX2_pairs_5 rfl (lv_at hl 2 rfl) ?_
    refine va_get (D := D) (ci := 2) (v := .int (nI N)) (C := RX2) (T := TX2) (N := 6) hx hb hts hinX2 hown hK.1 hP 0 rfl rfl 0 (by decide) (hts (.fieldLink RX2 27 "CairnShells$Strata" "layers" "I") (by decide +kernel)) (fun _ h9 => h9) rfl dX2_pairs_6 ?_
    refine my_geN (x := k) (y := N) (tgt := 30) hx hb dX2_pairs_9 (by decide) (by omega) (by omega) (fun h1 => ?_) (fun h1 => ?_)
    · obtain rfl : N = k := by omega
      subst ey
      refine lv_iload_n hx hb dX2_pairs_30 rfl (lv_at hl 1 rfl) ?_
      exact RO_zret hx hb hr hlk hH dX2_pairs_31 (by rfl) rfl
    · refine lv_iload_n hx hb dX2_pairs_12 rfl (lv_at hl 1 rfl) ?_
      refine lv_aload_n hx hb dX2_pairs_13 rfl (lv_at hl 2 rfl) ?_
      refine va_get (D := D) (ci := 2) (v := .ref qbe) (C := RX2) (T := TX2) (N := 6) hx hb hts hinX2 hown hK.1 hP 0 rfl rfl 2 (by decide) (hts (.fieldLink RX2 15 "CairnShells$Strata" "belows" "[I") (by decide +kernel)) (fun _ h9 => h9) rfl dX2_pairs_14 ?_
      refine lv_iload_n hx hb dX2_pairs_17 rfl (lv_at hl 0 rfl) ?_
      refine my_iald (D := D) (j := k) hx hb hK hP 1 rfl (by omega) (by decide) dX2_pairs_18 ?_
      refine RO_go (va_runS (As := [.int (be k)]) (rest := [.int (nI y)]) ⟨hx, hb, hml, hown, hts⟩ (c_bc l (D := D) (cA := cA) (H0 := H0) (x := be k) (hs := hsm k (by omega))) (va_cwS 1 hts gX2_pairs_J6_bitCount_0f7a4 rfl rfl rfl (by decide +kernel) ⟨Nat.le_of_ble_eq_true rfl, Nat.le_of_ble_eq_true rfl⟩) (cP_S hK) rfl rfl hl.1 rfl (lv_room (Nat.le_of_ble_eq_true rfl)) dX2_pairs_19 ⟨by omega, by omega⟩) ?_
      refine my_iaddN (x := y) (y := ct (bt (be k)) 14) hx hb dX2_pairs_22 ?_
      refine lv_istore_n (lv' := [(1, .int (nI (y + (ct (bt (be k)) 14)))), (2, .int (nI k)), (0, .ref qs)]) hx hb dX2_pairs_23 rfl hl (by decide) rfl (fun ls hl => ?_)
      refine lv_iinc (v := nI (k + 1)) (x := nI k) (lv' := [(2, .int (nI (k + 1))), (1, .int (nI (y + (ct (bt (be k)) 14)))), (0, .ref qs)]) hx hb dX2_pairs_24 hl (k := 1) rfl (nI_1 k) (by decide) rfl (fun ls hl => ?_)
      refine lv_goto (tgt := 4) hx hb dX2_pairs_27 (by decide) ?_
      exact ih4 (k + 1) (y + (ct (bt (be k)) 14)) (by omega) (by omega) (by subst ey; first | rfl | simp [prs, h1]) _ (lv_sub hl [0, 1, 2] rfl)
set_option maxHeartbeats 4000000 in
set_option maxRecDepth 100000 in
theorem c_X2_pairsMore (l : Launch) {D : va_G} {cA : ClassId} {H0 : Heap} {qs qal qbe qto qod qph N : Nat} {al be to : Nat → Int32} (i : Nat) (j : Nat) (hi : i < 14) (hj : j < 14) (hN : N ≤ 14) (hsm : small (al j ||| be j)) (hP : va_P D vwCl [(qs, .inr (2, [.int (nI N), .ref qal, .ref qbe, .ref qto, .ref qod, .ref qph])), (qal, .inl (cA, 14, .inl al)), (qbe, .inl (cA, 14, .inl be)), (qto, .inl (cA, 14, .inl to))] H0) : RO l yX2_pairsMore wsX2_pairsMore 1 21 [.ref qs, .int (nI i), .int (nI j)] D cA H0 (some (.int (nI (prM be (al i ||| to i) (al j ||| be j) N)))) := by
  refine RO_of (cc := cX2_pairsMore) (maxL := 7) (ret := (some .int)) (by decide) rfl (Nat.le_of_ble_eq_true rfl) ?_
  intro p e s m below meth c ls hx hb hml hr hown hts hlk hH hK hl
  have hown : s.vm.findClass RX2 = some m.cls := hown
  have hl : lv_has ls 7 [(0, .ref qs), (1, .int (nI i)), (2, .int (nI j))] := hl
  have hinX2 : ∀ w ∈ wsX20, w ∈ wsX2_pairsMore := by decide +kernel
  refine lv_aload_n hx hb dX2_pairsMore_0 rfl (lv_at hl 0 rfl) ?_
  refine va_get (D := D) (ci := 2) (v := .ref qal) (C := RX2) (T := TX2) (N := 6) hx hb hts hinX2 hown hK.1 hP 0 rfl rfl 1 (by decide) (hts (.fieldLink RX2 9 "CairnShells$Strata" "alikes" "[I") (by decide +kernel)) (fun _ h9 => h9) rfl dX2_pairsMore_1 ?_
  refine lv_iload_n hx hb dX2_pairsMore_4 rfl (lv_at hl 1 rfl) ?_
  refine my_iald (D := D) (j := i) hx hb hK hP 1 rfl (by omega) (by decide) dX2_pairsMore_5 ?_
  refine lv_aload_n hx hb dX2_pairsMore_6 rfl (lv_at hl 0 rfl) ?_
  refine va_get (D := D) (ci := 2) (v := .ref qto) (C := RX2) (T := TX2) (N := 6) hx hb hts hinX2 hown hK.1 hP 0 rfl rfl 3 (by decide) (hts (.fieldLink RX2 18 "CairnShells$Strata" "tops" "[I") (by decide +kernel)) (fun _ h9 => h9) rfl dX2_pairsMore_7 ?_
  refine lv_iload_n hx hb dX2_pairsMore_10 rfl (lv_at hl 1 rfl) ?_
  refine my_iald (D := D) (j := i) hx hb hK hP 3 rfl (by omega) (by decide) dX2_pairsMore_11 ?_
  refine lv_ior hx hb dX2_pairsMore_12 ?_
  refine lv_istore_n (lv' := [(3, .int ((al i) ||| (to i))), (0, .ref qs), (1, .int (nI i)), (2, .int (nI j))]) hx hb dX2_pairsMore_13 rfl hl (by decide) rfl (fun ls hl => ?_)
  refine lv_aload_n hx hb dX2_pairsMore_14 rfl (lv_at hl 1 rfl) ?_
  refine va_get (D := D) (ci := 2) (v := .ref qal) (C := RX2) (T := TX2) (N := 6) hx hb hts hinX2 hown hK.1 hP 0 rfl rfl 1 (by decide) (hts (.fieldLink RX2 9 "CairnShells$Strata" "alikes" "[I") (by decide +kernel)) (fun _ h9 => h9) rfl dX2_pairsMore_15 ?_
  refine lv_iload_n hx hb dX2_pairsMore_18 rfl (lv_at hl 3 rfl) ?_
  refine my_iald (D := D) (j := j) hx hb hK hP 1 rfl (by omega) (by decide) dX2_pairsMore_19 ?_
  refine lv_aload_n hx hb dX2_pairsMore_20 rfl (lv_at hl 1 rfl) ?_
  refine va_get (D := D) (ci := 2) (v := .ref qbe) (C := RX2) (T := TX2) (N := 6) hx hb hts hinX2 hown hK.1 hP 0 rfl rfl 2 (by decide) (hts (.fieldLink RX2 15 "CairnShells$Strata" "belows" "[I") (by decide +kernel)) (fun _ h9 => h9) rfl dX2_pairsMore_21 ?_
  refine lv_iload_n hx hb dX2_pairsMore_24 rfl (lv_at hl 3 rfl) ?_
  refine my_iald (D := D) (j := j) hx hb hK hP 2 rfl (by omega) (by decide) dX2_pairsMore_25 ?_
  refine lv_ior hx hb dX2_pairsMore_26 ?_
  refine lv_istore (lv' := [(4, .int ((al j) ||| (be j))), (3, .int ((al i) ||| (to i))), (0, .ref qs), (1, .int (nI i)), (2, .int (nI j))]) hx hb dX2_pairsMore_27 hl (by decide) rfl (fun ls hl => ?_)
  refine lv_iconst (v := 0) hx hb dX2_pairsMore_29 (by decide) ?_
  refine lv_istore (lv' := [(5, .int 0), (4, .int ((al j) ||| (be j))), (3, .int ((al i) ||| (to i))), (0, .ref qs), (1, .int (nI i)), (2, .int (nI j))]) hx hb dX2_pairsMore_30 hl (by decide) rfl (fun ls hl => ?_)
  refine lv_iconst (v := 0) hx hb dX2_pairsMore_32 (by decide) ?_
  refine lv_istore (lv' := [(6, .int 0), (5, .int 0), (4, .int ((al j) ||| (be j))), (3, .int ((al i) ||| (to i))), (0, .ref qs), (1, .int (nI i)), (2, .int (nI j))]) hx hb dX2_pairsMore_33 hl (by decide) rfl (fun ls hl => ?_)
  suffices loop : ∀ (n k : Nat) (y : Nat), k ≤ N → N < k + n → y = prM be (al i ||| to i) (al j ||| be j) k → ∀ ls, lv_has ls 7 [(6, .int (nI k)), (5, .int (nI y)), (4, .int ((al j) ||| (be j))), (3, .int ((al i) ||| (to i))), (0, .ref qs), (1, .int (nI i)), (2, .int (nI j))] → W p l e { frames := 1, cells := 0, slots := 0, locals := 21 } s m ([.ref qs, .int (nI i), .int (nI j)] : List Value).toArray below meth c H0 [] 0 0 (MQ below (roQ (some (.int (nI (prM be (al i ||| to i) (al j ||| be j) N)))) H0) ([.ref qs, .int (nI i), .int (nI j)] : List Value).toArray s 0 0 (fun _ => False)) (F0 m 35 ls []) from loop (N + 1) 0 0 (by omega) (by omega) (by first | rfl | simp []) _ (lv_sub hl [0, 1, 2, 3, 4, 5, 6] rfl)
  intro n
  induction n with
  | zero => intro k y hk1 hk2; exact absurd hk2 (by omega)
  | succ n ih35 =>
    intro k y hk35 hn35 ey ls hl
    refine lv_iload hx hb dX2_pairsMore_35 (lv_at hl 0 rfl) ?_
    refine lv_aload_n hx hb dX2_pairsMore_37 rfl (lv_at hl 4 rfl) ?_
    refine va_get (D := D) (ci := 2) (v := .int (nI N)) (C := RX2) (T := TX2) (N := 6) hx hb hts hinX2 hown hK.1 hP 0 rfl rfl 0 (by decide) (hts (.fieldLink RX2 27 "CairnShells$Strata" "layers" "I") (by decide +kernel)) (fun _ h9 => h9) rfl dX2_pairsMore_38 ?_
    refine my_geN (x := k) (y := N) (tgt := 79) hx hb dX2_pairsMore_41 (by decide) (by omega) (by omega) (fun h1 => ?_) (fun h1 => ?_)
    · obtain rfl : N = k := by omega
      subst ey
      refine lv_iload hx hb dX2_pairsMore_79 (lv_at hl 1 rfl) ?_
      exact RO_zret hx hb hr hlk hH dX2_pairsMore_81 (by rfl) rfl
    · refine lv_iload_n hx hb dX2_pairsMore_44 rfl (lv_at hl 3 rfl) ?_
      refine lv_iload hx hb dX2_pairsMore_45 (lv_at hl 0 rfl) ?_
      refine RO_go (va_runSN (As := [.int ((al i) ||| (to i)), .int (nI k)]) (rest := []) ⟨hx, hb, hml, hown, hts⟩ (c_X3_has l (D := D) (cA := cA) (H0 := H0) (x := (al i) ||| (to i)) (j := k) (hj := by omega)) ⟨va_cnB 2 hts gX2_pairsMore_X3_has_n31 rfl rfl rfl hK.2.2.2 (hts (.initialized RX3) (by decide +kernel)) (by decide +kernel) ⟨Nat.le_of_ble_eq_true rfl, Nat.le_of_ble_eq_true rfl⟩, (hts (.static yX3_has) (by decide +kernel)), trivial⟩ (cP_S hK) rfl rfl hl.1 rfl (lv_room (Nat.le_of_ble_eq_true rfl)) dX2_pairsMore_47 ⟨by omega, by omega⟩) ?_
      refine my_ifeq_b (tgt := 73) hx hb dX2_pairsMore_50 (by decide) (fun h2 => ?_) (fun h2 => ?_)
      · refine lv_iinc (v := nI (k + 1)) (x := nI k) (lv' := [(6, .int (nI (k + 1))), (5, .int (nI y)), (4, .int ((al j) ||| (be j))), (3, .int ((al i) ||| (to i))), (0, .ref qs), (1, .int (nI i)), (2, .int (nI j))]) hx hb dX2_pairsMore_73 hl (k := 0) rfl (nI_1 k) (by decide) rfl (fun ls hl => ?_)
        refine lv_goto (tgt := 35) hx hb dX2_pairsMore_76 (by decide) ?_
        exact ih35 (k + 1) y (by omega) (by omega) (by subst ey; first | rfl | simp [prM, h1, h2]) _ (lv_sub hl [0, 1, 2, 3, 4, 5, 6] rfl)
      · refine lv_iload hx hb dX2_pairsMore_53 (lv_at hl 1 rfl) ?_
        refine lv_iload hx hb dX2_pairsMore_55 (lv_at hl 2 rfl) ?_
        refine lv_aload_n hx hb dX2_pairsMore_57 rfl (lv_at hl 4 rfl) ?_
        refine va_get (D := D) (ci := 2) (v := .ref qbe) (C := RX2) (T := TX2) (N := 6) hx hb hts hinX2 hown hK.1 hP 0 rfl rfl 2 (by decide) (hts (.fieldLink RX2 15 "CairnShells$Strata" "belows" "[I") (by decide +kernel)) (fun _ h9 => h9) rfl dX2_pairsMore_58 ?_
        refine lv_iload hx hb dX2_pairsMore_61 (lv_at hl 0 rfl) ?_
        refine my_iald (D := D) (j := k) hx hb hK hP 2 rfl (by omega) (by decide) dX2_pairsMore_63 ?_
        refine lv_iconst (v := (-1)) hx hb dX2_pairsMore_64 (by decide) ?_
        refine lv_ixor hx hb dX2_pairsMore_65 ?_
        refine lv_iand hx hb dX2_pairsMore_66 ?_
        refine RO_go (va_runS (As := [.int (((al j) ||| (be j)) &&& ((be k) ^^^ (-1)))]) (rest := [.int (nI y)]) ⟨hx, hb, hml, hown, hts⟩ (c_bc l (D := D) (cA := cA) (H0 := H0) (x := ((al j) ||| (be j)) &&& ((be k) ^^^ (-1))) (hs := small_and hsm)) (va_cwS 1 hts gX2_pairsMore_J6_bitCount_0f7a4 rfl rfl rfl (by decide +kernel) ⟨Nat.le_of_ble_eq_true rfl, Nat.le_of_ble_eq_true rfl⟩) (cP_S hK) rfl rfl hl.1 rfl (lv_room (Nat.le_of_ble_eq_true rfl)) dX2_pairsMore_67 ⟨by omega, by omega⟩) ?_
        refine my_iaddN (x := y) (y := ct (bt (((al j) ||| (be j)) &&& ((be k) ^^^ (-1)))) 14) hx hb dX2_pairsMore_70 ?_
        refine lv_istore (lv' := [(5, .int (nI (y + (ct (bt (((al j) ||| (be j)) &&& ((be k) ^^^ (-1)))) 14)))), (6, .int (nI k)), (4, .int ((al j) ||| (be j))), (3, .int ((al i) ||| (to i))), (0, .ref qs), (1, .int (nI i)), (2, .int (nI j))]) hx hb dX2_pairsMore_71 hl (by decide) rfl (fun ls hl => ?_)
        refine lv_iinc (v := nI (k + 1)) (x := nI k) (lv' := [(6, .int (nI (k + 1))), (5, .int (nI (y + (ct (bt (((al j) ||| (be j)) &&& ((be k) ^^^ (-1)))) 14)))), (4, .int ((al j) ||| (be j))), (3, .int ((al i) ||| (to i))), (0, .ref qs), (1, .int (nI i)), (2, .int (nI j))]) hx hb dX2_pairsMore_73 hl (k := 1) rfl (nI_1 k) (by decide) rfl (fun ls hl => ?_)
        refine lv_goto (tgt := 35) hx hb dX2_pairsMore_76 (by decide) ?_
        exact ih35 (k + 1) (y + (ct (bt (((al j) ||| (be j)) &&& ((be k) ^^^ (-1)))) 14)) (by omega) (by omega) (by subst ey; first | rfl | simp [prM, h1, h2]) _ (lv_sub hl [0, 1, 2, 3, 4, 5, 6] rfl)
set_option maxHeartbeats 4000000 in
set_option maxRecDepth 100000 in
theorem c_X2_sorts (l : Launch) {D : va_G} {cA : ClassId} {H0 : Heap} {qs qal qbe qto qod qph N : Nat} {al : Nat → Int32} (hN : N ≤ 14) (hP : va_P D vwCl [(qs, .inr (2, [.int (nI N), .ref qal, .ref qbe, .ref qto, .ref qod, .ref qph])), (qal, .inl (cA, 14, .inl al))] H0) : RO l yX2_sorts wsX2_sorts 0 0 [.ref qs] D cA H0 (some (.int (nI (srt al N)))) := by
  refine RO_of (cc := cX2_sorts) (maxL := 3) (ret := (some .int)) (by decide) rfl (Nat.le_of_ble_eq_true rfl) ?_
  intro p e s m below meth c ls hx hb hml hr hown hts hlk hH hK hl
  have hown : s.vm.findClass RX2 = some m.cls := hown
  have hl : lv_has ls 3 [(0, .ref qs)] := hl
  have hinX2 : ∀ w ∈ wsX20, w ∈ wsX2_sorts := by decide +kernel
  refine lv_iconst (v := 0) hx hb dX2_sorts_0 (by decide) ?_
  refine lv_istore_n (lv' := [(1, .int 0), (0, .ref qs)]) hx hb dX2_sorts_1 rfl hl (by decide) rfl (fun ls hl => ?_)
  refine lv_iconst (v := 0) hx hb dX2_sorts_2 (by decide) ?_
  refine lv_istore_n (lv' := [(2, .int 0), (1, .int 0), (0, .ref qs)]) hx hb dX2_sorts_3 rfl hl (by decide) rfl (fun ls hl => ?_)
  suffices loop : ∀ (n k : Nat) (y : Nat), k ≤ N → N < k + n → y = srt al k → ∀ ls, lv_has ls 3 [(2, .int (nI k)), (1, .int (nI y)), (0, .ref qs)] → W p l e { frames := 0, cells := 0, slots := 0, locals := 0 } s m ([.ref qs] : List Value).toArray below meth c H0 [] 0 0 (MQ below (roQ (some (.int (nI (srt al N)))) H0) ([.ref qs] : List Value).toArray s 0 0 (fun _ => False)) (F0 m 4 ls []) from loop (N + 1) 0 0 (by omega) (by omega) (by first | rfl | simp []) _ (lv_sub hl [0, 1, 2] rfl)
  intro n
  induction n with
  | zero => intro k y hk1 hk2; exact absurd hk2 (by omega)
  | succ n ih4 =>
    intro k y hk4 hn4 ey ls hl
    refine lv_iload_n hx hb dX2_sorts_4 rfl (lv_at hl 0 rfl) ?_
    refine lv_aload_n hx hb dX2_sorts_5 rfl (lv_at hl 2 rfl) ?_
    refine va_get (D := D) (ci := 2) (v := .int (nI N)) (C := RX2) (T := TX2) (N := 6) hx hb hts hinX2 hown hK.1 hP 0 rfl rfl 0 (by decide) (hts (.fieldLink RX2 27 "CairnShells$Strata" "layers" "I") (by decide +kernel)) (fun _ h9 => h9) rfl dX2_sorts_6 ?_
    refine my_geN (x := k) (y := N) (tgt := 36) hx hb dX2_sorts_9 (by decide) (by omega) (by omega) (fun h1 => ?_) (fun h1 => ?_)
    · obtain rfl : N = k := by omega
      subst ey
      refine lv_iload_n hx hb dX2_sorts_36 rfl (lv_at hl 1 rfl) ?_
      exact RO_zret hx hb hr hlk hH dX2_sorts_37 (by rfl) rfl
    · refine lv_aload_n hx hb dX2_sorts_12 rfl (lv_at hl 2 rfl) ?_
      refine va_get (D := D) (ci := 2) (v := .ref qal) (C := RX2) (T := TX2) (N := 6) hx hb hts hinX2 hown hK.1 hP 0 rfl rfl 1 (by decide) (hts (.fieldLink RX2 9 "CairnShells$Strata" "alikes" "[I") (by decide +kernel)) (fun _ h9 => h9) rfl dX2_sorts_13 ?_
      refine lv_iload_n hx hb dX2_sorts_16 rfl (lv_at hl 0 rfl) ?_
      refine my_iald (D := D) (j := k) hx hb hK hP 1 rfl (by omega) (by decide) dX2_sorts_17 ?_
      refine lv_iconst (v := 1) hx hb dX2_sorts_18 (by decide) ?_
      refine lv_iload_n hx hb dX2_sorts_19 rfl (lv_at hl 0 rfl) ?_
      refine lv_ishl hx hb dX2_sorts_20 ?_
      refine lv_iconst (v := 1) hx hb dX2_sorts_21 (by decide) ?_
      refine lv_isub hx hb dX2_sorts_22 ?_
      refine lv_iand hx hb dX2_sorts_23 ?_
      refine lv_if_ne (tgt := 30) hx hb dX2_sorts_24 (by decide) (fun h2 => ?_) (fun h2 => ?_)
      · refine lv_iinc (v := nI (k + 1)) (x := nI k) (lv' := [(2, .int (nI (k + 1))), (1, .int (nI y)), (0, .ref qs)]) hx hb dX2_sorts_30 hl (k := 0) rfl (nI_1 k) (by decide) rfl (fun ls hl => ?_)
        refine lv_goto (tgt := 4) hx hb dX2_sorts_33 (by decide) ?_
        exact ih4 (k + 1) y (by omega) (by omega) (by subst ey; first | rfl | simp [srt, h1, h2]) _ (lv_sub hl [0, 1, 2] rfl)
      · refine lv_iinc (v := nI (y + 1)) (x := nI y) (lv' := [(1, .int (nI (y + 1))), (2, .int (nI k)), (0, .ref qs)]) hx hb dX2_sorts_27 hl (k := 1) rfl (nI_1 y) (by decide) rfl (fun ls hl => ?_)
        refine lv_iinc (v := nI (k + 1)) (x := nI k) (lv' := [(2, .int (nI (k + 1))), (1, .int (nI (y + 1))), (0, .ref qs)]) hx hb dX2_sorts_30 hl (k := 1) rfl (nI_1 k) (by decide) rfl (fun ls hl => ?_)
        refine lv_goto (tgt := 4) hx hb dX2_sorts_33 (by decide) ?_
        exact ih4 (k + 1) (y + 1) (by omega) (by omega) (by subst ey; first | rfl | simp [srt, h1, h2]) _ (lv_sub hl [0, 1, 2] rfl)
set_option maxHeartbeats 4000000 in
set_option maxRecDepth 100000 in
theorem c_X2_link (l : Launch) {D : va_G} {cA : ClassId} {H0 : Heap} {qs qal qbe qto qod qph N : Nat} {be to : Nat → Int32} (x : Int32) (y : Int32) (hN : N ≤ 14) (hP : va_P D vwCl [(qs, .inr (2, [.int (nI N), .ref qal, .ref qbe, .ref qto, .ref qod, .ref qph])), (qbe, .inl (cA, 14, .inl be)), (qto, .inl (cA, 14, .inl to))] H0) (hD0 : va_D (fun _ => True) [(qs, .inr (2, [.int (nI N), .ref qal, .ref qbe, .ref qto, .ref qod, .ref qph])), (qbe, .inl (cA, 14, .inl be)), (qto, .inl (cA, 14, .inl to))]) : WR l yX2_link wsX2_link 1 21 0 0 [.ref qs, .int x, .int y] D cA H0 none [(qs, .inr (2, [.int (nI N), .ref qal, .ref qbe, .ref qto, .ref qod, .ref qph])), (qbe, .inl (cA, 14, .inl be)), (qto, .inl (cA, 14, .inl to))] [(qs, .inr (2, [.int (nI N), .ref qal, .ref qbe, .ref qto, .ref qod, .ref qph])), (qbe, .inl (cA, 14, .inl (lkU be x y N))), (qto, .inl (cA, 14, .inl (lkU to y x N)))] := by
  refine WR_of (cc := cX2_link) (maxL := 4) (ret := none) (by decide) rfl (Nat.le_of_ble_eq_true rfl) ?_
  intro p e s m below meth c ls hx hb hml hr hown hts hlk hin2 hH hK hl
  have hown : s.vm.findClass RX2 = some m.cls := hown
  have hl : lv_has ls 4 [(0, .ref qs), (1, .int x), (2, .int y)] := hl
  have hinX2 : ∀ w ∈ wsX20, w ∈ wsX2_link := by decide +kernel
  have hD := hD0.self (sz := H0.size)
  obtain ⟨A, hAe⟩ : ∃ A, A = va_A [(qs, .inr (2, [.int (nI N), .ref qal, .ref qbe, .ref qto, .ref qod, .ref qph])), (qbe, .inl (cA, 14, .inl be)), (qto, .inl (cA, 14, .inl to))] H0.size := ⟨_, rfl⟩
  rw [← hAe] at hD ⊢
  have hA : ∀ q : Nat, H0.size ≤ q → A q := fun q h => by rw [hAe]; exact Or.inr h
  have hS : va_S A H0 H0 [] := va_S.rf
  refine lv_iconst (v := 0) hx hb dX2_link_0 (by decide) ?_
  refine lv_istore_n (lv' := [(3, .int 0), (0, .ref qs), (1, .int x), (2, .int y)]) hx hb dX2_link_1 rfl hl (by decide) rfl (fun ls hl => ?_)
  suffices loop : ∀ (n k : Nat) (f1 : Nat → Int32) (f2 : Nat → Int32), k ≤ N → N < k + n → f1 = lkU be x y k → f2 = lkU to y x k → ∀ (H : Heap) (locs : List Loc), va_P D vwCl [(qs, .inr (2, [.int (nI N), .ref qal, .ref qbe, .ref qto, .ref qod, .ref qph])), (qbe, .inl (cA, 14, .inl f1)), (qto, .inl (cA, 14, .inl f2))] H → va_D A [(qs, .inr (2, [.int (nI N), .ref qal, .ref qbe, .ref qto, .ref qod, .ref qph])), (qbe, .inl (cA, 14, .inl f1)), (qto, .inl (cA, 14, .inl f2))] → va_S A H0 H locs → ∀ ls, lv_has ls 4 [(3, .int (nI k)), (0, .ref qs), (1, .int x), (2, .int y)] → W p l e { frames := 1, cells := 0, slots := 0, locals := 21 } s m ([.ref qs, .int x, .int y] : List Value).toArray below meth c H locs (0) (0) (MQ below (wrQ none D [(qs, .inr (2, [.int (nI N), .ref qal, .ref qbe, .ref qto, .ref qod, .ref qph])), (qbe, .inl (cA, 14, .inl be)), (qto, .inl (cA, 14, .inl to))] [(qs, .inr (2, [.int (nI N), .ref qal, .ref qbe, .ref qto, .ref qod, .ref qph])), (qbe, .inl (cA, 14, .inl (lkU be x y N))), (qto, .inl (cA, 14, .inl (lkU to y x N)))] H0) ([.ref qs, .int x, .int y] : List Value).toArray s 0 0 A) (F0 m 2 ls []) from loop (N + 1) 0 be to (by omega) (by omega) (by first | rfl | simp [lkU_0]) (by first | rfl | simp [lkU_0]) _ _ hP hD hS _ (lv_sub hl [0, 1, 2, 3] rfl)
  intro n
  induction n with
  | zero => intro k f1 f2 hk1 hk2; exact absurd hk2 (by omega)
  | succ n ih2 =>
    intro k f1 f2 hk2 hn2 ef1 ef2 H locs hP hD hS ls hl
    refine lv_iload_n hx hb dX2_link_2 rfl (lv_at hl 0 rfl) ?_
    refine lv_aload_n hx hb dX2_link_3 rfl (lv_at hl 1 rfl) ?_
    refine va_get (D := D) (ci := 2) (v := .int (nI N)) (C := RX2) (T := TX2) (N := 6) hx hb hts hinX2 hown hK.1 hP 0 rfl rfl 0 (by decide) (hts (.fieldLink RX2 27 "CairnShells$Strata" "layers" "I") (by decide +kernel)) (fun _ h9 => h9) rfl dX2_link_4 ?_
    refine my_geN (x := k) (y := N) (tgt := 52) hx hb dX2_link_7 (by decide) (by omega) (by omega) (fun h1 => ?_) (fun h1 => ?_)
    · obtain rfl : N = k := by omega
      subst ef1
      subst ef2
      exact WR_vret hAe hx hb hr hlk hH dX2_link_52 (by omega) (by omega) (hP.sub [0, 1, 2] rfl) hS
    · refine lv_iload_n hx hb dX2_link_10 rfl (lv_at hl 2 rfl) ?_
      refine lv_iload_n hx hb dX2_link_11 rfl (lv_at hl 0 rfl) ?_
      refine RO_go (va_runSN (As := [.int x, .int (nI k)]) (rest := []) ⟨hx, hb, hml, hown, hts⟩ (c_X3_has l (D := D) (cA := cA) (H0 := H) (x := x) (j := k) (hj := by omega)) ⟨va_cnB 2 hts gX2_link_X3_has_n31 rfl rfl rfl hK.2.2.2 (hts (.initialized RX3) (by decide +kernel)) (by decide +kernel) ⟨Nat.le_of_ble_eq_true rfl, Nat.le_of_ble_eq_true rfl⟩, (hts (.static yX3_has) (by decide +kernel)), trivial⟩ (cP_S hK) rfl rfl hl.1 rfl (lv_room (Nat.le_of_ble_eq_true rfl)) dX2_link_12 ⟨by omega, by omega⟩) ?_
      refine my_ifeq_b (tgt := 28) hx hb dX2_link_15 (by decide) (fun h2 => ?_) (fun h2 => ?_)
      · refine lv_iload_n hx hb dX2_link_28 rfl (lv_at hl 3 rfl) ?_
        refine lv_iload_n hx hb dX2_link_29 rfl (lv_at hl 0 rfl) ?_
        refine RO_go (va_runSN (As := [.int y, .int (nI k)]) (rest := []) ⟨hx, hb, hml, hown, hts⟩ (c_X3_has l (D := D) (cA := cA) (H0 := H) (x := y) (j := k) (hj := by omega)) ⟨va_cnB 2 hts gX2_link_X3_has_n31 rfl rfl rfl hK.2.2.2 (hts (.initialized RX3) (by decide +kernel)) (by decide +kernel) ⟨Nat.le_of_ble_eq_true rfl, Nat.le_of_ble_eq_true rfl⟩, (hts (.static yX3_has) (by decide +kernel)), trivial⟩ (cP_S hK) rfl rfl hl.1 rfl (lv_room (Nat.le_of_ble_eq_true rfl)) dX2_link_30 ⟨by omega, by omega⟩) ?_
        refine my_ifeq_b (tgt := 46) hx hb dX2_link_33 (by decide) (fun h3 => ?_) (fun h3 => ?_)
        · refine lv_iinc (v := nI (k + 1)) (x := nI k) (lv' := [(3, .int (nI (k + 1))), (0, .ref qs), (1, .int x), (2, .int y)]) hx hb dX2_link_46 hl (k := 0) rfl (nI_1 k) (by decide) rfl (fun ls hl => ?_)
          refine lv_goto (tgt := 2) hx hb dX2_link_49 (by decide) ?_
          exact ih2 (k + 1) f1 f2 (by omega) (by omega) (by subst ef1; subst ef2; first | exact lkU_t h2 | exact lkU_f h2 | exact lkU_t h3 | exact lkU_f h3) (by subst ef1; subst ef2; first | exact lkU_t h2 | exact lkU_f h2 | exact lkU_t h3 | exact lkU_f h3) _ _ hP hD hS _ (lv_sub hl [0, 1, 2, 3] rfl)
        · refine lv_aload_n hx hb dX2_link_36 rfl (lv_at hl 1 rfl) ?_
          refine va_get (D := D) (ci := 2) (v := .ref qto) (C := RX2) (T := TX2) (N := 6) hx hb hts hinX2 hown hK.1 hP 0 rfl rfl 3 (by decide) (hts (.fieldLink RX2 18 "CairnShells$Strata" "tops" "[I") (by decide +kernel)) (fun _ h9 => h9) rfl dX2_link_37 ?_
          refine lv_iload_n hx hb dX2_link_40 rfl (lv_at hl 0 rfl) ?_
          refine lv_dup2_11 hx hb dX2_link_41 rfl rfl ?_
          refine my_iald (D := D) (j := k) hx hb hK hP 2 rfl (by omega) (by decide) dX2_link_42 ?_
          refine lv_iload_n hx hb dX2_link_43 rfl (lv_at hl 2 rfl) ?_
          refine lv_ior hx hb dX2_link_44 ?_
          refine my_iast (D := D) (j := k) hx hb hK hP hD hS 2 rfl (by omega) (by decide) dX2_link_45 (fun H locs hP hD hS => ?_)
          have hP : va_P D vwCl [(qs, .inr (2, [.int (nI N), .ref qal, .ref qbe, .ref qto, .ref qod, .ref qph])), (qbe, .inl (cA, 14, .inl f1)), (qto, .inl (cA, 14, .inl (upd f2 k ((f2 k) ||| x))))] H := hP
          have hD : va_D A [(qs, .inr (2, [.int (nI N), .ref qal, .ref qbe, .ref qto, .ref qod, .ref qph])), (qbe, .inl (cA, 14, .inl f1)), (qto, .inl (cA, 14, .inl (upd f2 k ((f2 k) ||| x))))] := hD
          refine lv_iinc (v := nI (k + 1)) (x := nI k) (lv' := [(3, .int (nI (k + 1))), (0, .ref qs), (1, .int x), (2, .int y)]) hx hb dX2_link_46 hl (k := 0) rfl (nI_1 k) (by decide) rfl (fun ls hl => ?_)
          refine lv_goto (tgt := 2) hx hb dX2_link_49 (by decide) ?_
          exact ih2 (k + 1) f1 (upd f2 k ((f2 k) ||| x)) (by omega) (by omega) (by subst ef1; subst ef2; first | exact lkU_t h2 | exact lkU_f h2 | exact lkU_t h3 | exact lkU_f h3) (by subst ef1; subst ef2; first | exact lkU_t h2 | exact lkU_f h2 | exact lkU_t h3 | exact lkU_f h3) _ _ hP hD hS _ (lv_sub hl [0, 1, 2, 3] rfl)
      · refine lv_aload_n hx hb dX2_link_18 rfl (lv_at hl 1 rfl) ?_
        refine va_get (D := D) (ci := 2) (v := .ref qbe) (C := RX2) (T := TX2) (N := 6) hx hb hts hinX2 hown hK.1 hP 0 rfl rfl 2 (by decide) (hts (.fieldLink RX2 15 "CairnShells$Strata" "belows" "[I") (by decide +kernel)) (fun _ h9 => h9) rfl dX2_link_19 ?_
        refine lv_iload_n hx hb dX2_link_22 rfl (lv_at hl 0 rfl) ?_
        refine lv_dup2_11 hx hb dX2_link_23 rfl rfl ?_
        refine my_iald (D := D) (j := k) hx hb hK hP 1 rfl (by omega) (by decide) dX2_link_24 ?_
        refine lv_iload_n hx hb dX2_link_25 rfl (lv_at hl 3 rfl) ?_
        refine lv_ior hx hb dX2_link_26 ?_
        refine my_iast (D := D) (j := k) hx hb hK hP hD hS 1 rfl (by omega) (by decide) dX2_link_27 (fun H locs hP hD hS => ?_)
        have hP : va_P D vwCl [(qs, .inr (2, [.int (nI N), .ref qal, .ref qbe, .ref qto, .ref qod, .ref qph])), (qbe, .inl (cA, 14, .inl (upd f1 k ((f1 k) ||| y)))), (qto, .inl (cA, 14, .inl f2))] H := hP
        have hD : va_D A [(qs, .inr (2, [.int (nI N), .ref qal, .ref qbe, .ref qto, .ref qod, .ref qph])), (qbe, .inl (cA, 14, .inl (upd f1 k ((f1 k) ||| y)))), (qto, .inl (cA, 14, .inl f2))] := hD
        refine lv_iload_n hx hb dX2_link_28 rfl (lv_at hl 3 rfl) ?_
        refine lv_iload_n hx hb dX2_link_29 rfl (lv_at hl 0 rfl) ?_
        refine RO_go (va_runSN (As := [.int y, .int (nI k)]) (rest := []) ⟨hx, hb, hml, hown, hts⟩ (c_X3_has l (D := D) (cA := cA) (H0 := H) (x := y) (j := k) (hj := by omega)) ⟨va_cnB 2 hts gX2_link_X3_has_n31 rfl rfl rfl hK.2.2.2 (hts (.initialized RX3) (by decide +kernel)) (by decide +kernel) ⟨Nat.le_of_ble_eq_true rfl, Nat.le_of_ble_eq_true rfl⟩, (hts (.static yX3_has) (by decide +kernel)), trivial⟩ (cP_S hK) rfl rfl hl.1 rfl (lv_room (Nat.le_of_ble_eq_true rfl)) dX2_link_30 ⟨by omega, by omega⟩) ?_
        refine my_ifeq_b (tgt := 46) hx hb dX2_link_33 (by decide) (fun h4 => ?_) (fun h4 => ?_)
        · refine lv_iinc (v := nI (k + 1)) (x := nI k) (lv' := [(3, .int (nI (k + 1))), (0, .ref qs), (1, .int x), (2, .int y)]) hx hb dX2_link_46 hl (k := 0) rfl (nI_1 k) (by decide) rfl (fun ls hl => ?_)
          refine lv_goto (tgt := 2) hx hb dX2_link_49 (by decide) ?_
          exact ih2 (k + 1) (upd f1 k ((f1 k) ||| y)) f2 (by omega) (by omega) (by subst ef1; subst ef2; first | exact lkU_t h2 | exact lkU_f h2 | exact lkU_t h4 | exact lkU_f h4) (by subst ef1; subst ef2; first | exact lkU_t h2 | exact lkU_f h2 | exact lkU_t h4 | exact lkU_f h4) _ _ hP hD hS _ (lv_sub hl [0, 1, 2, 3] rfl)
        · refine lv_aload_n hx hb dX2_link_36 rfl (lv_at hl 1 rfl) ?_
          refine va_get (D := D) (ci := 2) (v := .ref qto) (C := RX2) (T := TX2) (N := 6) hx hb hts hinX2 hown hK.1 hP 0 rfl rfl 3 (by decide) (hts (.fieldLink RX2 18 "CairnShells$Strata" "tops" "[I") (by decide +kernel)) (fun _ h9 => h9) rfl dX2_link_37 ?_
          refine lv_iload_n hx hb dX2_link_40 rfl (lv_at hl 0 rfl) ?_
          refine lv_dup2_11 hx hb dX2_link_41 rfl rfl ?_
          refine my_iald (D := D) (j := k) hx hb hK hP 2 rfl (by omega) (by decide) dX2_link_42 ?_
          refine lv_iload_n hx hb dX2_link_43 rfl (lv_at hl 2 rfl) ?_
          refine lv_ior hx hb dX2_link_44 ?_
          refine my_iast (D := D) (j := k) hx hb hK hP hD hS 2 rfl (by omega) (by decide) dX2_link_45 (fun H locs hP hD hS => ?_)
          have hP : va_P D vwCl [(qs, .inr (2, [.int (nI N), .ref qal, .ref qbe, .ref qto, .ref qod, .ref qph])), (qbe, .inl (cA, 14, .inl (upd f1 k ((f1 k) ||| y)))), (qto, .inl (cA, 14, .inl (upd f2 k ((f2 k) ||| x))))] H := hP
          have hD : va_D A [(qs, .inr (2, [.int (nI N), .ref qal, .ref qbe, .ref qto, .ref qod, .ref qph])), (qbe, .inl (cA, 14, .inl (upd f1 k ((f1 k) ||| y)))), (qto, .inl (cA, 14, .inl (upd f2 k ((f2 k) ||| x))))] := hD
          refine lv_iinc (v := nI (k + 1)) (x := nI k) (lv' := [(3, .int (nI (k + 1))), (0, .ref qs), (1, .int x), (2, .int y)]) hx hb dX2_link_46 hl (k := 0) rfl (nI_1 k) (by decide) rfl (fun ls hl => ?_)
          refine lv_goto (tgt := 2) hx hb dX2_link_49 (by decide) ?_
          exact ih2 (k + 1) (upd f1 k ((f1 k) ||| y)) (upd f2 k ((f2 k) ||| x)) (by omega) (by omega) (by subst ef1; subst ef2; first | exact lkU_t h2 | exact lkU_f h2 | exact lkU_t h4 | exact lkU_f h4) (by subst ef1; subst ef2; first | exact lkU_t h2 | exact lkU_f h2 | exact lkU_t h4 | exact lkU_f h4) _ _ hP hD hS _ (lv_sub hl [0, 1, 2, 3] rfl)
set_option maxHeartbeats 4000000 in
set_option maxRecDepth 100000 in
theorem c_X2_arrange (l : Launch) {D : va_G} {cA : ClassId} {H0 : Heap} {qs qal qbe qto qod qph N : Nat} {be od ph : Nat → Int32} (hN1 : 1 ≤ N) (hN : N ≤ 14) (hP : va_P D vwCl [(qs, .inr (2, [.int (nI N), .ref qal, .ref qbe, .ref qto, .ref qod, .ref qph])), (qbe, .inl (cA, 14, .inl be)), (qod, .inl (cA, 14, .inl od)), (qph, .inl (cA, 14, .inl ph))] H0) (hD0 : va_D (fun _ => True) [(qs, .inr (2, [.int (nI N), .ref qal, .ref qbe, .ref qto, .ref qod, .ref qph])), (qbe, .inl (cA, 14, .inl be)), (qod, .inl (cA, 14, .inl od)), (qph, .inl (cA, 14, .inl ph))]) : WR l yX2_arrange wsX2_arrange 2 44 0 0 [.ref qs] D cA H0 none [(qs, .inr (2, [.int (nI N), .ref qal, .ref qbe, .ref qto, .ref qod, .ref qph])), (qbe, .inl (cA, 14, .inl be)), (qod, .inl (cA, 14, .inl od)), (qph, .inl (cA, 14, .inl ph))] [(qs, .inr (2, [.int (nI N), .ref qal, .ref qbe, .ref qto, .ref qod, .ref qph])), (qbe, .inl (cA, 14, .inl be)), (qod, .inl (cA, 14, .inl (arO N be od N))), (qph, .inl (cA, 14, .inl (arP N be ph N)))] := by
  refine WR_of (cc := cX2_arrange) (maxL := 4) (ret := none) (by decide) rfl (Nat.le_of_ble_eq_true rfl) ?_
  intro p e s m below meth c ls hx hb hml hr hown hts hlk hin2 hH hK hl
  have hown : s.vm.findClass RX2 = some m.cls := hown
  have hl : lv_has ls 4 [(0, .ref qs)] := hl
  have hinX2 : ∀ w ∈ wsX20, w ∈ wsX2_arrange := by decide +kernel
  have hD := hD0.self (sz := H0.size)
  obtain ⟨A, hAe⟩ : ∃ A, A = va_A [(qs, .inr (2, [.int (nI N), .ref qal, .ref qbe, .ref qto, .ref qod, .ref qph])), (qbe, .inl (cA, 14, .inl be)), (qod, .inl (cA, 14, .inl od)), (qph, .inl (cA, 14, .inl ph))] H0.size := ⟨_, rfl⟩
  rw [← hAe] at hD ⊢
  have hA : ∀ q : Nat, H0.size ≤ q → A q := fun q h => by rw [hAe]; exact Or.inr h
  have hS : va_S A H0 H0 [] := va_S.rf
  refine lv_iconst (v := 1) hx hb dX2_arrange_0 (by decide) ?_
  refine lv_aload_n hx hb dX2_arrange_1 rfl (lv_at hl 0 rfl) ?_
  refine va_get (D := D) (ci := 2) (v := .int (nI N)) (C := RX2) (T := TX2) (N := 6) hx hb hts hinX2 hown hK.1 hP 0 rfl rfl 0 (by decide) (hts (.fieldLink RX2 27 "CairnShells$Strata" "layers" "I") (by decide +kernel)) (fun _ h9 => h9) rfl dX2_arrange_2 ?_
  refine lv_ishl hx hb dX2_arrange_5 ?_
  refine lv_iconst (v := 1) hx hb dX2_arrange_6 (by decide) ?_
  refine lv_isub hx hb dX2_arrange_7 ?_
  refine lv_istore_n (lv' := [(1, .int (((1 : Int32) <<< ((nI N) &&& 31)) - 1)), (0, .ref qs)]) hx hb dX2_arrange_8 rfl hl (by decide) rfl (fun ls hl => ?_)
  refine lv_iconst (v := 0) hx hb dX2_arrange_9 (by decide) ?_
  refine lv_istore_n (lv' := [(2, .int 0), (1, .int (((1 : Int32) <<< ((nI N) &&& 31)) - 1)), (0, .ref qs)]) hx hb dX2_arrange_10 rfl hl (by decide) rfl (fun ls hl => ?_)
  suffices loop : ∀ (n k : Nat) (lf : Int32) (f1 : Nat → Int32) (f2 : Nat → Int32), k ≤ N → N < k + n → lf = arL N be k → f1 = arO N be od k → f2 = arP N be ph k → ∀ (H : Heap) (locs : List Loc), va_P D vwCl [(qs, .inr (2, [.int (nI N), .ref qal, .ref qbe, .ref qto, .ref qod, .ref qph])), (qbe, .inl (cA, 14, .inl be)), (qod, .inl (cA, 14, .inl f1)), (qph, .inl (cA, 14, .inl f2))] H → va_D A [(qs, .inr (2, [.int (nI N), .ref qal, .ref qbe, .ref qto, .ref qod, .ref qph])), (qbe, .inl (cA, 14, .inl be)), (qod, .inl (cA, 14, .inl f1)), (qph, .inl (cA, 14, .inl f2))] → va_S A H0 H locs → ∀ ls, lv_has ls 4 [(2, .int (nI k)), (1, .int lf), (0, .ref qs)] → W p l e { frames := 2, cells := 0, slots := 0, locals := 44 } s m ([.ref qs] : List Value).toArray below meth c H locs (0) (0) (MQ below (wrQ none D [(qs, .inr (2, [.int (nI N), .ref qal, .ref qbe, .ref qto, .ref qod, .ref qph])), (qbe, .inl (cA, 14, .inl be)), (qod, .inl (cA, 14, .inl od)), (qph, .inl (cA, 14, .inl ph))] [(qs, .inr (2, [.int (nI N), .ref qal, .ref qbe, .ref qto, .ref qod, .ref qph])), (qbe, .inl (cA, 14, .inl be)), (qod, .inl (cA, 14, .inl (arO N be od N))), (qph, .inl (cA, 14, .inl (arP N be ph N)))] H0) ([.ref qs] : List Value).toArray s 0 0 A) (F0 m 11 ls []) from loop (N + 1) 0 (((1 : Int32) <<< ((nI N) &&& 31)) - 1) od ph (by omega) (by omega) (by first | rfl | simp [arL, arO, arP]) (by first | rfl | simp [arL, arO, arP]) (by first | rfl | simp [arL, arO, arP]) _ _ hP hD hS _ (lv_sub hl [0, 1, 2] rfl)
  intro n
  induction n with
  | zero => intro k lf f1 f2 hk1 hk2; exact absurd hk2 (by omega)
  | succ n ih11 =>
    intro k lf f1 f2 hk11 hn11 elf ef1 ef2 H locs hP hD hS ls hl
    refine lv_iload_n hx hb dX2_arrange_11 rfl (lv_at hl 0 rfl) ?_
    refine lv_aload_n hx hb dX2_arrange_12 rfl (lv_at hl 2 rfl) ?_
    refine va_get (D := D) (ci := 2) (v := .int (nI N)) (C := RX2) (T := TX2) (N := 6) hx hb hts hinX2 hown hK.1 hP 0 rfl rfl 0 (by decide) (hts (.fieldLink RX2 27 "CairnShells$Strata" "layers" "I") (by decide +kernel)) (fun _ h9 => h9) rfl dX2_arrange_13 ?_
    refine my_geN (x := k) (y := N) (tgt := 62) hx hb dX2_arrange_16 (by decide) (by omega) (by omega) (fun h1 => ?_) (fun h1 => ?_)
    · obtain rfl : N = k := by omega
      subst elf
      subst ef1
      subst ef2
      exact WR_vret hAe hx hb hr hlk hH dX2_arrange_62 (by omega) (by omega) (hP.sub [0, 1, 2, 3] rfl) hS
    · refine lv_aload_n hx hb dX2_arrange_19 rfl (lv_at hl 2 rfl) ?_
      refine lv_iload_n hx hb dX2_arrange_20 rfl (lv_at hl 1 rfl) ?_
      refine RO_go (va_runV (As := [.int lf]) (rest := []) ⟨hx, hb, hml, hown, hts⟩ (c_X2_lowestFree l (D := D) (cA := cA) (H0 := H) (x := lf) (hN1 := by omega) (hN := by omega) (hP := hP.sub (ws' := [(qs, .inr (2, [.int (nI N), .ref qal, .ref qbe, .ref qto, .ref qod, .ref qph])), (qbe, .inl (cA, 14, .inl be))]) [0, 1] rfl)) (cwV 1 hts gX2_arrange_X2_lowestFree rfl rfl rfl (by decide +kernel) ⟨Nat.le_of_ble_eq_true rfl, Nat.le_of_ble_eq_true rfl⟩) (cP_V hK (va_recv hK.1 hP (ci := 2) (q0 := 0) rfl rfl)) rfl rfl hl.1 rfl (lv_room (Nat.le_of_ble_eq_true rfl)) dX2_arrange_21 ⟨by omega, by omega⟩) ?_
      refine lv_istore_n (lv' := [(3, .int (nI (fnd (fre be lf) (N - 1)))), (2, .int (nI k)), (1, .int lf), (0, .ref qs)]) hx hb dX2_arrange_24 rfl hl (by decide) rfl (fun ls hl => ?_)
      have hlt := fnd_le (fre be lf) (N - 1)
      refine lv_aload_n hx hb dX2_arrange_25 rfl (lv_at hl 3 rfl) ?_
      refine va_get (D := D) (ci := 2) (v := .ref qod) (C := RX2) (T := TX2) (N := 6) hx hb hts hinX2 hown hK.1 hP 0 rfl rfl 4 (by decide) (hts (.fieldLink RX2 21 "CairnShells$Strata" "order" "[I") (by decide +kernel)) (fun _ h9 => h9) rfl dX2_arrange_26 ?_
      refine lv_iload_n hx hb dX2_arrange_29 rfl (lv_at hl 1 rfl) ?_
      refine lv_iload_n hx hb dX2_arrange_30 rfl (lv_at hl 0 rfl) ?_
      refine my_iast (D := D) (j := k) hx hb hK hP hD hS 2 rfl (by omega) (by decide) dX2_arrange_31 (fun H locs hP hD hS => ?_)
      have hP : va_P D vwCl [(qs, .inr (2, [.int (nI N), .ref qal, .ref qbe, .ref qto, .ref qod, .ref qph])), (qbe, .inl (cA, 14, .inl be)), (qod, .inl (cA, 14, .inl (upd f1 k (nI (fnd (fre be lf) (N - 1)))))), (qph, .inl (cA, 14, .inl f2))] H := hP
      have hD : va_D A [(qs, .inr (2, [.int (nI N), .ref qal, .ref qbe, .ref qto, .ref qod, .ref qph])), (qbe, .inl (cA, 14, .inl be)), (qod, .inl (cA, 14, .inl (upd f1 k (nI (fnd (fre be lf) (N - 1)))))), (qph, .inl (cA, 14, .inl f2))] := hD
      refine lv_aload_n hx hb dX2_arrange_32 rfl (lv_at hl 3 rfl) ?_
      refine va_get (D := D) (ci := 2) (v := .ref qph) (C := RX2) (T := TX2) (N := 6) hx hb hts hinX2 hown hK.1 hP 0 rfl rfl 5 (by decide) (hts (.fieldLink RX2 24 "CairnShells$Strata" "phaseOf" "[I") (by decide +kernel)) (fun _ h9 => h9) rfl dX2_arrange_33 ?_
      refine lv_iload_n hx hb dX2_arrange_36 rfl (lv_at hl 0 rfl) ?_
      refine lv_aload_n hx hb dX2_arrange_37 rfl (lv_at hl 3 rfl) ?_
      refine lv_aload_n hx hb dX2_arrange_38 rfl (lv_at hl 3 rfl) ?_
      refine va_get (D := D) (ci := 2) (v := .ref qbe) (C := RX2) (T := TX2) (N := 6) hx hb hts hinX2 hown hK.1 hP 0 rfl rfl 2 (by decide) (hts (.fieldLink RX2 15 "CairnShells$Strata" "belows" "[I") (by decide +kernel)) (fun _ h9 => h9) rfl dX2_arrange_39 ?_
      refine lv_iload_n hx hb dX2_arrange_42 rfl (lv_at hl 0 rfl) ?_
      refine my_iald (D := D) (j := fnd (fre be lf) (N - 1)) hx hb hK hP 1 rfl (by omega) (by decide) dX2_arrange_43 ?_
      refine RO_go (va_runV (As := [.int (be (fnd (fre be lf) (N - 1)))]) (rest := [.int (nI (fnd (fre be lf) (N - 1))), .ref qph]) ⟨hx, hb, hml, hown, hts⟩ (c_X2_phaseOver l (D := D) (cA := cA) (H0 := H) (x := be (fnd (fre be lf) (N - 1))) (hN := by omega) (hP := hP.sub (ws' := [(qs, .inr (2, [.int (nI N), .ref qal, .ref qbe, .ref qto, .ref qod, .ref qph])), (qph, .inl (cA, 14, .inl f2))]) [0, 3] rfl)) (cwV 1 hts gX2_arrange_X2_phaseOver rfl rfl rfl (by decide +kernel) ⟨Nat.le_of_ble_eq_true rfl, Nat.le_of_ble_eq_true rfl⟩) (cP_V hK (va_recv hK.1 hP (ci := 2) (q0 := 0) rfl rfl)) rfl rfl hl.1 rfl (lv_room (Nat.le_of_ble_eq_true rfl)) dX2_arrange_44 ⟨by omega, by omega⟩) ?_
      refine my_iast (D := D) (j := fnd (fre be lf) (N - 1)) hx hb hK hP hD hS 3 rfl (by omega) (by decide) dX2_arrange_47 (fun H locs hP hD hS => ?_)
      have hP : va_P D vwCl [(qs, .inr (2, [.int (nI N), .ref qal, .ref qbe, .ref qto, .ref qod, .ref qph])), (qbe, .inl (cA, 14, .inl be)), (qod, .inl (cA, 14, .inl (upd f1 k (nI (fnd (fre be lf) (N - 1)))))), (qph, .inl (cA, 14, .inl (upd f2 (fnd (fre be lf) (N - 1)) (pO f2 (be (fnd (fre be lf) (N - 1))) N))))] H := hP
      have hD : va_D A [(qs, .inr (2, [.int (nI N), .ref qal, .ref qbe, .ref qto, .ref qod, .ref qph])), (qbe, .inl (cA, 14, .inl be)), (qod, .inl (cA, 14, .inl (upd f1 k (nI (fnd (fre be lf) (N - 1)))))), (qph, .inl (cA, 14, .inl (upd f2 (fnd (fre be lf) (N - 1)) (pO f2 (be (fnd (fre be lf) (N - 1))) N))))] := hD
      refine lv_iload_n hx hb dX2_arrange_48 rfl (lv_at hl 2 rfl) ?_
      refine lv_iconst (v := 1) hx hb dX2_arrange_49 (by decide) ?_
      refine lv_iload_n hx hb dX2_arrange_50 rfl (lv_at hl 0 rfl) ?_
      refine lv_ishl hx hb dX2_arrange_51 ?_
      refine lv_iconst (v := (-1)) hx hb dX2_arrange_52 (by decide) ?_
      refine lv_ixor hx hb dX2_arrange_53 ?_
      refine lv_iand hx hb dX2_arrange_54 ?_
      refine lv_istore_n (lv' := [(1, .int (lf &&& (((1 : Int32) <<< ((nI (fnd (fre be lf) (N - 1))) &&& 31)) ^^^ (-1)))), (3, .int (nI (fnd (fre be lf) (N - 1)))), (2, .int (nI k)), (0, .ref qs)]) hx hb dX2_arrange_55 rfl hl (by decide) rfl (fun ls hl => ?_)
      refine lv_iinc (v := nI (k + 1)) (x := nI k) (lv' := [(2, .int (nI (k + 1))), (1, .int (lf &&& (((1 : Int32) <<< ((nI (fnd (fre be lf) (N - 1))) &&& 31)) ^^^ (-1)))), (3, .int (nI (fnd (fre be lf) (N - 1)))), (0, .ref qs)]) hx hb dX2_arrange_56 hl (k := 2) rfl (nI_1 k) (by decide) rfl (fun ls hl => ?_)
      refine lv_goto (tgt := 11) hx hb dX2_arrange_59 (by decide) ?_
      exact ih11 (k + 1) (lf &&& (((1 : Int32) <<< ((nI (fnd (fre be lf) (N - 1))) &&& 31)) ^^^ (-1))) (upd f1 k (nI (fnd (fre be lf) (N - 1)))) (upd f2 (fnd (fre be lf) (N - 1)) (pO f2 (be (fnd (fre be lf) (N - 1))) N)) (by omega) (by omega) (by subst elf; subst ef1; subst ef2; rfl) (by subst elf; subst ef1; subst ef2; rfl) (by subst elf; subst ef1; subst ef2; rfl) _ _ hP hD hS _ (lv_sub hl [0, 1, 3] rfl)
set_option maxHeartbeats 4000000 in
set_option maxRecDepth 100000 in
theorem c_X2_addLayer (l : Launch) {D : va_G} {cA : ClassId} {H0 : Heap} {qs qal qbe qto qod qph N : Nat} {al be od ph : Nat → Int32} (hN : N < 14) (hP : va_P D vwCl [(qs, .inr (2, [.int (nI N), .ref qal, .ref qbe, .ref qto, .ref qod, .ref qph])), (qal, .inl (cA, 14, .inl al)), (qbe, .inl (cA, 14, .inl be)), (qod, .inl (cA, 14, .inl od)), (qph, .inl (cA, 14, .inl ph))] H0) (hD0 : va_D (fun _ => True) [(qs, .inr (2, [.int (nI N), .ref qal, .ref qbe, .ref qto, .ref qod, .ref qph])), (qal, .inl (cA, 14, .inl al)), (qbe, .inl (cA, 14, .inl be)), (qod, .inl (cA, 14, .inl od)), (qph, .inl (cA, 14, .inl ph))]) : WR l yX2_addLayer wsX2_addLayer 3 67 0 0 [.ref qs] D cA H0 (some (.int (nI N))) [(qs, .inr (2, [.int (nI N), .ref qal, .ref qbe, .ref qto, .ref qod, .ref qph])), (qal, .inl (cA, 14, .inl al)), (qbe, .inl (cA, 14, .inl be)), (qod, .inl (cA, 14, .inl od)), (qph, .inl (cA, 14, .inl ph))] [(qs, .inr (2, [.int (nI (N + 1)), .ref qal, .ref qbe, .ref qto, .ref qod, .ref qph])), (qal, .inl (cA, 14, .inl (upd al N (1 <<< (nI N &&& 31))))), (qbe, .inl (cA, 14, .inl be)), (qod, .inl (cA, 14, .inl (arO (N + 1) be od (N + 1)))), (qph, .inl (cA, 14, .inl (arP (N + 1) be ph (N + 1))))] := by
  refine WR_of (cc := cX2_addLayer) (maxL := 2) (ret := (some .int)) (by decide) rfl (Nat.le_of_ble_eq_true rfl) ?_
  intro p e s m below meth c ls hx hb hml hr hown hts hlk hin2 hH hK hl
  have hown : s.vm.findClass RX2 = some m.cls := hown
  have hl : lv_has ls 2 [(0, .ref qs)] := hl
  have hinX2 : ∀ w ∈ wsX20, w ∈ wsX2_addLayer := by decide +kernel
  have hD := hD0.self (sz := H0.size)
  obtain ⟨A, hAe⟩ : ∃ A, A = va_A [(qs, .inr (2, [.int (nI N), .ref qal, .ref qbe, .ref qto, .ref qod, .ref qph])), (qal, .inl (cA, 14, .inl al)), (qbe, .inl (cA, 14, .inl be)), (qod, .inl (cA, 14, .inl od)), (qph, .inl (cA, 14, .inl ph))] H0.size := ⟨_, rfl⟩
  rw [← hAe] at hD ⊢
  have hA : ∀ q : Nat, H0.size ≤ q → A q := fun q h => by rw [hAe]; exact Or.inr h
  have hS : va_S A H0 H0 [] := va_S.rf
  refine lv_aload_n hx hb dX2_addLayer_0 rfl (lv_at hl 0 rfl) ?_
  refine va_get (D := D) (ci := 2) (v := .int (nI N)) (C := RX2) (T := TX2) (N := 6) hx hb hts hinX2 hown hK.1 hP 0 rfl rfl 0 (by decide) (hts (.fieldLink RX2 27 "CairnShells$Strata" "layers" "I") (by decide +kernel)) (fun _ h9 => h9) rfl dX2_addLayer_1 ?_
  refine lv_istore_n (lv' := [(1, .int (nI N)), (0, .ref qs)]) hx hb dX2_addLayer_4 rfl hl (by decide) rfl (fun ls hl => ?_)
  refine lv_aload_n hx hb dX2_addLayer_5 rfl (lv_at hl 1 rfl) ?_
  refine va_get (D := D) (ci := 2) (v := .ref qal) (C := RX2) (T := TX2) (N := 6) hx hb hts hinX2 hown hK.1 hP 0 rfl rfl 1 (by decide) (hts (.fieldLink RX2 9 "CairnShells$Strata" "alikes" "[I") (by decide +kernel)) (fun _ h9 => h9) rfl dX2_addLayer_6 ?_
  refine lv_iload_n hx hb dX2_addLayer_9 rfl (lv_at hl 0 rfl) ?_
  refine lv_iconst (v := 1) hx hb dX2_addLayer_10 (by decide) ?_
  refine lv_iload_n hx hb dX2_addLayer_11 rfl (lv_at hl 0 rfl) ?_
  refine lv_ishl hx hb dX2_addLayer_12 ?_
  refine my_iast (D := D) (j := N) hx hb hK hP hD hS 1 rfl (by omega) (by decide) dX2_addLayer_13 (fun H locs hP hD hS => ?_)
  have hP : va_P D vwCl [(qs, .inr (2, [.int (nI N), .ref qal, .ref qbe, .ref qto, .ref qod, .ref qph])), (qal, .inl (cA, 14, .inl (upd al N ((1 : Int32) <<< ((nI N) &&& 31))))), (qbe, .inl (cA, 14, .inl be)), (qod, .inl (cA, 14, .inl od)), (qph, .inl (cA, 14, .inl ph))] H := hP
  have hD : va_D A [(qs, .inr (2, [.int (nI N), .ref qal, .ref qbe, .ref qto, .ref qod, .ref qph])), (qal, .inl (cA, 14, .inl (upd al N ((1 : Int32) <<< ((nI N) &&& 31))))), (qbe, .inl (cA, 14, .inl be)), (qod, .inl (cA, 14, .inl od)), (qph, .inl (cA, 14, .inl ph))] := hD
  refine lv_aload_n hx hb dX2_addLayer_14 rfl (lv_at hl 1 rfl) ?_
  refine lv_iload_n hx hb dX2_addLayer_15 rfl (lv_at hl 0 rfl) ?_
  refine lv_iconst (v := 1) hx hb dX2_addLayer_16 (by decide) ?_
  refine my_iaddN (x := N) (y := 1) hx hb dX2_addLayer_17 ?_
  refine va_put (D := D) (ci := 2) (v := .int (nI (N + 1))) (ty := .int) (C := RX2) (T := TX2) (N := 6) hx hb hts hinX2 tyX2 tyX2_ok nmX2 hown hK.1 hP hD hS 0 rfl rfl 0 (by decide) (hts (.fieldLink RX2 27 "CairnShells$Strata" "layers" "I") (by decide +kernel)) (fun _ h9 => h9) rfl (by decide +kernel) rfl rfl (Nat.le_of_ble_eq_true rfl) dX2_addLayer_18 (fun H locs hP hD hS => ?_)
  have hP : va_P D vwCl [(qs, .inr (2, [.int (nI (N + 1)), .ref qal, .ref qbe, .ref qto, .ref qod, .ref qph])), (qal, .inl (cA, 14, .inl (upd al N ((1 : Int32) <<< ((nI N) &&& 31))))), (qbe, .inl (cA, 14, .inl be)), (qod, .inl (cA, 14, .inl od)), (qph, .inl (cA, 14, .inl ph))] H := hP
  have hD : va_D A [(qs, .inr (2, [.int (nI (N + 1)), .ref qal, .ref qbe, .ref qto, .ref qod, .ref qph])), (qal, .inl (cA, 14, .inl (upd al N ((1 : Int32) <<< ((nI N) &&& 31))))), (qbe, .inl (cA, 14, .inl be)), (qod, .inl (cA, 14, .inl od)), (qph, .inl (cA, 14, .inl ph))] := hD
  refine lv_aload_n hx hb dX2_addLayer_21 rfl (lv_at hl 1 rfl) ?_
  refine WR_go (ws' := [(qs, .inr (2, [.int (nI (N + 1)), .ref qal, .ref qbe, .ref qto, .ref qod, .ref qph])), (qal, .inl (cA, 14, .inl (upd al N ((1 : Int32) <<< ((nI N) &&& 31))))), (qbe, .inl (cA, 14, .inl be)), (qod, .inl (cA, 14, .inl (arO (N + 1) be od (N + 1)))), (qph, .inl (cA, 14, .inl (arP (N + 1) be ph (N + 1))))]) (va_runV (As := []) (rest := []) ⟨hx, hb, hml, hown, hts⟩ (c_X2_arrange l (D := D) (cA := cA) (H0 := H) (hN1 := by omega) (hN := by omega) (hP := hP.sub (ws' := [(qs, .inr (2, [.int (nI (N + 1)), .ref qal, .ref qbe, .ref qto, .ref qod, .ref qph])), (qbe, .inl (cA, 14, .inl be)), (qod, .inl (cA, 14, .inl od)), (qph, .inl (cA, 14, .inl ph))]) [0, 2, 3, 4] rfl) (hD0 := (hD.sub (ws' := [(qs, .inr (2, [.int (nI (N + 1)), .ref qal, .ref qbe, .ref qto, .ref qod, .ref qph])), (qbe, .inl (cA, 14, .inl be)), (qod, .inl (cA, 14, .inl od)), (qph, .inl (cA, 14, .inl ph))]) [0, 2, 3, 4] (by decide) rfl).weaken (fun _ _ _ _ => trivial))) (cwV 0 hts gX2_addLayer_X2_arrange rfl rfl rfl (by decide +kernel) ⟨Nat.le_of_ble_eq_true rfl, Nat.le_of_ble_eq_true rfl⟩) (cP_V hK (va_recv hK.1 hP (ci := 2) (q0 := 0) rfl rfl)) rfl rfl hl.1 rfl (lv_room (Nat.le_of_ble_eq_true rfl)) dX2_addLayer_22 ⟨by omega, by omega⟩) hP hD hS hA [0, 2, 3, 4] [1] rfl (by decide) (by decide) [1, 0, 2, 3, 4] rfl (fun H locs hP hS hz => ?_)
  have hD : va_D A [(qs, .inr (2, [.int (nI (N + 1)), .ref qal, .ref qbe, .ref qto, .ref qod, .ref qph])), (qal, .inl (cA, 14, .inl (upd al N ((1 : Int32) <<< ((nI N) &&& 31))))), (qbe, .inl (cA, 14, .inl be)), (qod, .inl (cA, 14, .inl (arO (N + 1) be od (N + 1)))), (qph, .inl (cA, 14, .inl (arP (N + 1) be ph (N + 1))))] := hD.adr rfl
  refine lv_iload_n hx hb dX2_addLayer_25 rfl (lv_at hl 0 rfl) ?_
  exact WR_zret hAe hx hb hr hlk hH dX2_addLayer_26 (by omega) (by omega) (hP.sub [0, 1, 2, 3, 4] rfl) hS (by rfl) rfl
set_option maxHeartbeats 4000000 in
set_option maxRecDepth 100000 in
theorem c_X2_putAbove (l : Launch) {D : va_G} {cA : ClassId} {H0 : Heap} {qs qal qbe qto qod qph N : Nat} {al be to od ph : Nat → Int32} (i : Nat) (j : Nat) (hi : i < 14) (hj : j < 14) (hN1 : 1 ≤ N) (hN : N ≤ 14) (hP : va_P D vwCl [(qs, .inr (2, [.int (nI N), .ref qal, .ref qbe, .ref qto, .ref qod, .ref qph])), (qal, .inl (cA, 14, .inl al)), (qbe, .inl (cA, 14, .inl be)), (qto, .inl (cA, 14, .inl to)), (qod, .inl (cA, 14, .inl od)), (qph, .inl (cA, 14, .inl ph))] H0) (hD0 : va_D (fun _ => True) [(qs, .inr (2, [.int (nI N), .ref qal, .ref qbe, .ref qto, .ref qod, .ref qph])), (qal, .inl (cA, 14, .inl al)), (qbe, .inl (cA, 14, .inl be)), (qto, .inl (cA, 14, .inl to)), (qod, .inl (cA, 14, .inl od)), (qph, .inl (cA, 14, .inl ph))]) : WR l yX2_putAbove wsX2_putAbove 3 67 0 0 [.ref qs, .int (nI i), .int (nI j)] D cA H0 none [(qs, .inr (2, [.int (nI N), .ref qal, .ref qbe, .ref qto, .ref qod, .ref qph])), (qal, .inl (cA, 14, .inl al)), (qbe, .inl (cA, 14, .inl be)), (qto, .inl (cA, 14, .inl to)), (qod, .inl (cA, 14, .inl od)), (qph, .inl (cA, 14, .inl ph))] [(qs, .inr (2, [.int (nI N), .ref qal, .ref qbe, .ref qto, .ref qod, .ref qph])), (qal, .inl (cA, 14, .inl al)), (qbe, .inl (cA, 14, .inl (lkU be (al i ||| to i) (al j ||| be j) N))), (qto, .inl (cA, 14, .inl (lkU to (al j ||| be j) (al i ||| to i) N))), (qod, .inl (cA, 14, .inl (arO N (lkU be (al i ||| to i) (al j ||| be j) N) od N))), (qph, .inl (cA, 14, .inl (arP N (lkU be (al i ||| to i) (al j ||| be j) N) ph N)))] := by
  refine WR_of (cc := cX2_putAbove) (maxL := 3) (ret := none) (by decide) rfl (Nat.le_of_ble_eq_true rfl) ?_
  intro p e s m below meth c ls hx hb hml hr hown hts hlk hin2 hH hK hl
  have hown : s.vm.findClass RX2 = some m.cls := hown
  have hl : lv_has ls 3 [(0, .ref qs), (1, .int (nI i)), (2, .int (nI j))] := hl
  have hinX2 : ∀ w ∈ wsX20, w ∈ wsX2_putAbove := by decide +kernel
  have hD := hD0.self (sz := H0.size)
  obtain ⟨A, hAe⟩ : ∃ A, A = va_A [(qs, .inr (2, [.int (nI N), .ref qal, .ref qbe, .ref qto, .ref qod, .ref qph])), (qal, .inl (cA, 14, .inl al)), (qbe, .inl (cA, 14, .inl be)), (qto, .inl (cA, 14, .inl to)), (qod, .inl (cA, 14, .inl od)), (qph, .inl (cA, 14, .inl ph))] H0.size := ⟨_, rfl⟩
  rw [← hAe] at hD ⊢
  have hA : ∀ q : Nat, H0.size ≤ q → A q := fun q h => by rw [hAe]; exact Or.inr h
  have hS : va_S A H0 H0 [] := va_S.rf
  refine lv_aload_n hx hb dX2_putAbove_0 rfl (lv_at hl 0 rfl) ?_
  refine lv_aload_n hx hb dX2_putAbove_1 rfl (lv_at hl 0 rfl) ?_
  refine va_get (D := D) (ci := 2) (v := .ref qal) (C := RX2) (T := TX2) (N := 6) hx hb hts hinX2 hown hK.1 hP 0 rfl rfl 1 (by decide) (hts (.fieldLink RX2 9 "CairnShells$Strata" "alikes" "[I") (by decide +kernel)) (fun _ h9 => h9) rfl dX2_putAbove_2 ?_
  refine lv_iload_n hx hb dX2_putAbove_5 rfl (lv_at hl 1 rfl) ?_
  refine my_iald (D := D) (j := i) hx hb hK hP 1 rfl (by omega) (by decide) dX2_putAbove_6 ?_
  refine lv_aload_n hx hb dX2_putAbove_7 rfl (lv_at hl 0 rfl) ?_
  refine va_get (D := D) (ci := 2) (v := .ref qto) (C := RX2) (T := TX2) (N := 6) hx hb hts hinX2 hown hK.1 hP 0 rfl rfl 3 (by decide) (hts (.fieldLink RX2 18 "CairnShells$Strata" "tops" "[I") (by decide +kernel)) (fun _ h9 => h9) rfl dX2_putAbove_8 ?_
  refine lv_iload_n hx hb dX2_putAbove_11 rfl (lv_at hl 1 rfl) ?_
  refine my_iald (D := D) (j := i) hx hb hK hP 3 rfl (by omega) (by decide) dX2_putAbove_12 ?_
  refine lv_ior hx hb dX2_putAbove_13 ?_
  refine lv_aload_n hx hb dX2_putAbove_14 rfl (lv_at hl 0 rfl) ?_
  refine va_get (D := D) (ci := 2) (v := .ref qal) (C := RX2) (T := TX2) (N := 6) hx hb hts hinX2 hown hK.1 hP 0 rfl rfl 1 (by decide) (hts (.fieldLink RX2 9 "CairnShells$Strata" "alikes" "[I") (by decide +kernel)) (fun _ h9 => h9) rfl dX2_putAbove_15 ?_
  refine lv_iload_n hx hb dX2_putAbove_18 rfl (lv_at hl 2 rfl) ?_
  refine my_iald (D := D) (j := j) hx hb hK hP 1 rfl (by omega) (by decide) dX2_putAbove_19 ?_
  refine lv_aload_n hx hb dX2_putAbove_20 rfl (lv_at hl 0 rfl) ?_
  refine va_get (D := D) (ci := 2) (v := .ref qbe) (C := RX2) (T := TX2) (N := 6) hx hb hts hinX2 hown hK.1 hP 0 rfl rfl 2 (by decide) (hts (.fieldLink RX2 15 "CairnShells$Strata" "belows" "[I") (by decide +kernel)) (fun _ h9 => h9) rfl dX2_putAbove_21 ?_
  refine lv_iload_n hx hb dX2_putAbove_24 rfl (lv_at hl 2 rfl) ?_
  refine my_iald (D := D) (j := j) hx hb hK hP 2 rfl (by omega) (by decide) dX2_putAbove_25 ?_
  refine lv_ior hx hb dX2_putAbove_26 ?_
  refine WR_go (ws' := [(qs, .inr (2, [.int (nI N), .ref qal, .ref qbe, .ref qto, .ref qod, .ref qph])), (qal, .inl (cA, 14, .inl al)), (qbe, .inl (cA, 14, .inl (lkU be ((al i) ||| (to i)) ((al j) ||| (be j)) N))), (qto, .inl (cA, 14, .inl (lkU to ((al j) ||| (be j)) ((al i) ||| (to i)) N))), (qod, .inl (cA, 14, .inl od)), (qph, .inl (cA, 14, .inl ph))]) (va_runV (As := [.int ((al i) ||| (to i)), .int ((al j) ||| (be j))]) (rest := []) ⟨hx, hb, hml, hown, hts⟩ (c_X2_link l (D := D) (cA := cA) (H0 := H0) (x := (al i) ||| (to i)) (y := (al j) ||| (be j)) (hN := by omega) (hP := hP.sub (ws' := [(qs, .inr (2, [.int (nI N), .ref qal, .ref qbe, .ref qto, .ref qod, .ref qph])), (qbe, .inl (cA, 14, .inl be)), (qto, .inl (cA, 14, .inl to))]) [0, 2, 3] rfl) (hD0 := (hD.sub (ws' := [(qs, .inr (2, [.int (nI N), .ref qal, .ref qbe, .ref qto, .ref qod, .ref qph])), (qbe, .inl (cA, 14, .inl be)), (qto, .inl (cA, 14, .inl to))]) [0, 2, 3] (by decide) rfl).weaken (fun _ _ _ _ => trivial))) (cwV 2 hts gX2_putAbove_X2_link rfl rfl rfl (by decide +kernel) ⟨Nat.le_of_ble_eq_true rfl, Nat.le_of_ble_eq_true rfl⟩) (cP_V hK (va_recv hK.1 hP (ci := 2) (q0 := 0) rfl rfl)) rfl rfl hl.1 rfl (lv_room (Nat.le_of_ble_eq_true rfl)) dX2_putAbove_27 ⟨by omega, by omega⟩) hP hD hS hA [0, 2, 3] [1, 4, 5] rfl (by decide) (by decide) [3, 0, 4, 5, 1, 2] rfl (fun H locs hP hS hz => ?_)
  have hD : va_D A [(qs, .inr (2, [.int (nI N), .ref qal, .ref qbe, .ref qto, .ref qod, .ref qph])), (qal, .inl (cA, 14, .inl al)), (qbe, .inl (cA, 14, .inl (lkU be ((al i) ||| (to i)) ((al j) ||| (be j)) N))), (qto, .inl (cA, 14, .inl (lkU to ((al j) ||| (be j)) ((al i) ||| (to i)) N))), (qod, .inl (cA, 14, .inl od)), (qph, .inl (cA, 14, .inl ph))] := hD.adr rfl
  refine lv_aload_n hx hb dX2_putAbove_30 rfl (lv_at hl 0 rfl) ?_
  refine WR_go (ws' := [(qs, .inr (2, [.int (nI N), .ref qal, .ref qbe, .ref qto, .ref qod, .ref qph])), (qal, .inl (cA, 14, .inl al)), (qbe, .inl (cA, 14, .inl (lkU be ((al i) ||| (to i)) ((al j) ||| (be j)) N))), (qto, .inl (cA, 14, .inl (lkU to ((al j) ||| (be j)) ((al i) ||| (to i)) N))), (qod, .inl (cA, 14, .inl (arO N (lkU be ((al i) ||| (to i)) ((al j) ||| (be j)) N) od N))), (qph, .inl (cA, 14, .inl (arP N (lkU be ((al i) ||| (to i)) ((al j) ||| (be j)) N) ph N)))]) (va_runV (As := []) (rest := []) ⟨hx, hb, hml, hown, hts⟩ (c_X2_arrange l (D := D) (cA := cA) (H0 := H) (hN1 := by omega) (hN := by omega) (hP := hP.sub (ws' := [(qs, .inr (2, [.int (nI N), .ref qal, .ref qbe, .ref qto, .ref qod, .ref qph])), (qbe, .inl (cA, 14, .inl (lkU be ((al i) ||| (to i)) ((al j) ||| (be j)) N))), (qod, .inl (cA, 14, .inl od)), (qph, .inl (cA, 14, .inl ph))]) [0, 2, 4, 5] rfl) (hD0 := (hD.sub (ws' := [(qs, .inr (2, [.int (nI N), .ref qal, .ref qbe, .ref qto, .ref qod, .ref qph])), (qbe, .inl (cA, 14, .inl (lkU be ((al i) ||| (to i)) ((al j) ||| (be j)) N))), (qod, .inl (cA, 14, .inl od)), (qph, .inl (cA, 14, .inl ph))]) [0, 2, 4, 5] (by decide) rfl).weaken (fun _ _ _ _ => trivial))) (cwV 0 hts gX2_putAbove_X2_arrange rfl rfl rfl (by decide +kernel) ⟨Nat.le_of_ble_eq_true rfl, Nat.le_of_ble_eq_true rfl⟩) (cP_V hK (va_recv hK.1 hP (ci := 2) (q0 := 0) rfl rfl)) rfl rfl hl.1 rfl (lv_room (Nat.le_of_ble_eq_true rfl)) dX2_putAbove_31 ⟨by omega, by omega⟩) hP hD hS hA [0, 2, 4, 5] [1, 3] rfl (by decide) (by decide) [2, 0, 3, 1, 4, 5] rfl (fun H locs hP hS hz => ?_)
  have hD : va_D A [(qs, .inr (2, [.int (nI N), .ref qal, .ref qbe, .ref qto, .ref qod, .ref qph])), (qal, .inl (cA, 14, .inl al)), (qbe, .inl (cA, 14, .inl (lkU be ((al i) ||| (to i)) ((al j) ||| (be j)) N))), (qto, .inl (cA, 14, .inl (lkU to ((al j) ||| (be j)) ((al i) ||| (to i)) N))), (qod, .inl (cA, 14, .inl (arO N (lkU be ((al i) ||| (to i)) ((al j) ||| (be j)) N) od N))), (qph, .inl (cA, 14, .inl (arP N (lkU be ((al i) ||| (to i)) ((al j) ||| (be j)) N) ph N)))] := hD.adr rfl
  exact WR_vret hAe hx hb hr hlk hH dX2_putAbove_34 (by omega) (by omega) (hP.sub [0, 1, 2, 3, 4, 5] rfl) hS
set_option maxHeartbeats 4000000 in
set_option maxRecDepth 100000 in
theorem c_X2_join (l : Launch) {D : va_G} {cA : ClassId} {H0 : Heap} {qs qal qbe qto qod qph N : Nat} {al be to od ph : Nat → Int32} (i : Nat) (j : Nat) (hi : i < 14) (hj : j < 14) (hN1 : 1 ≤ N) (hN : N ≤ 14) (hP : va_P D vwCl [(qs, .inr (2, [.int (nI N), .ref qal, .ref qbe, .ref qto, .ref qod, .ref qph])), (qal, .inl (cA, 14, .inl al)), (qbe, .inl (cA, 14, .inl be)), (qto, .inl (cA, 14, .inl to)), (qod, .inl (cA, 14, .inl od)), (qph, .inl (cA, 14, .inl ph))] H0) (hD0 : va_D (fun _ => True) [(qs, .inr (2, [.int (nI N), .ref qal, .ref qbe, .ref qto, .ref qod, .ref qph])), (qal, .inl (cA, 14, .inl al)), (qbe, .inl (cA, 14, .inl be)), (qto, .inl (cA, 14, .inl to)), (qod, .inl (cA, 14, .inl od)), (qph, .inl (cA, 14, .inl ph))]) : WR l yX2_join wsX2_join 3 67 0 0 [.ref qs, .int (nI i), .int (nI j)] D cA H0 none [(qs, .inr (2, [.int (nI N), .ref qal, .ref qbe, .ref qto, .ref qod, .ref qph])), (qal, .inl (cA, 14, .inl al)), (qbe, .inl (cA, 14, .inl be)), (qto, .inl (cA, 14, .inl to)), (qod, .inl (cA, 14, .inl od)), (qph, .inl (cA, 14, .inl ph))] [(qs, .inr (2, [.int (nI N), .ref qal, .ref qbe, .ref qto, .ref qod, .ref qph])), (qal, .inl (cA, 14, .inl (stU al (al i ||| al j) N))), (qbe, .inl (cA, 14, .inl (lkU (lkU be ((al i ||| al j) ||| (to i ||| to j)) (be i ||| be j) N) (to i ||| to j) (al i ||| al j) N))), (qto, .inl (cA, 14, .inl (lkU (lkU to (be i ||| be j) ((al i ||| al j) ||| (to i ||| to j)) N) (al i ||| al j) (to i ||| to j) N))), (qod, .inl (cA, 14, .inl (arO N (lkU (lkU be ((al i ||| al j) ||| (to i ||| to j)) (be i ||| be j) N) (to i ||| to j) (al i ||| al j) N) od N))), (qph, .inl (cA, 14, .inl (arP N (lkU (lkU be ((al i ||| al j) ||| (to i ||| to j)) (be i ||| be j) N) (to i ||| to j) (al i ||| al j) N) ph N)))] := by
  refine WR_of (cc := cX2_join) (maxL := 7) (ret := none) (by decide) rfl (Nat.le_of_ble_eq_true rfl) ?_
  intro p e s m below meth c ls hx hb hml hr hown hts hlk hin2 hH hK hl
  have hown : s.vm.findClass RX2 = some m.cls := hown
  have hl : lv_has ls 7 [(0, .ref qs), (1, .int (nI i)), (2, .int (nI j))] := hl
  have hinX2 : ∀ w ∈ wsX20, w ∈ wsX2_join := by decide +kernel
  have hD := hD0.self (sz := H0.size)
  obtain ⟨A, hAe⟩ : ∃ A, A = va_A [(qs, .inr (2, [.int (nI N), .ref qal, .ref qbe, .ref qto, .ref qod, .ref qph])), (qal, .inl (cA, 14, .inl al)), (qbe, .inl (cA, 14, .inl be)), (qto, .inl (cA, 14, .inl to)), (qod, .inl (cA, 14, .inl od)), (qph, .inl (cA, 14, .inl ph))] H0.size := ⟨_, rfl⟩
  rw [← hAe] at hD ⊢
  have hA : ∀ q : Nat, H0.size ≤ q → A q := fun q h => by rw [hAe]; exact Or.inr h
  have hS : va_S A H0 H0 [] := va_S.rf
  refine lv_aload_n hx hb dX2_join_0 rfl (lv_at hl 0 rfl) ?_
  refine va_get (D := D) (ci := 2) (v := .ref qal) (C := RX2) (T := TX2) (N := 6) hx hb hts hinX2 hown hK.1 hP 0 rfl rfl 1 (by decide) (hts (.fieldLink RX2 9 "CairnShells$Strata" "alikes" "[I") (by decide +kernel)) (fun _ h9 => h9) rfl dX2_join_1 ?_
  refine lv_iload_n hx hb dX2_join_4 rfl (lv_at hl 1 rfl) ?_
  refine my_iald (D := D) (j := i) hx hb hK hP 1 rfl (by omega) (by decide) dX2_join_5 ?_
  refine lv_aload_n hx hb dX2_join_6 rfl (lv_at hl 0 rfl) ?_
  refine va_get (D := D) (ci := 2) (v := .ref qal) (C := RX2) (T := TX2) (N := 6) hx hb hts hinX2 hown hK.1 hP 0 rfl rfl 1 (by decide) (hts (.fieldLink RX2 9 "CairnShells$Strata" "alikes" "[I") (by decide +kernel)) (fun _ h9 => h9) rfl dX2_join_7 ?_
  refine lv_iload_n hx hb dX2_join_10 rfl (lv_at hl 2 rfl) ?_
  refine my_iald (D := D) (j := j) hx hb hK hP 1 rfl (by omega) (by decide) dX2_join_11 ?_
  refine lv_ior hx hb dX2_join_12 ?_
  refine lv_istore_n (lv' := [(3, .int ((al i) ||| (al j))), (0, .ref qs), (1, .int (nI i)), (2, .int (nI j))]) hx hb dX2_join_13 rfl hl (by decide) rfl (fun ls hl => ?_)
  refine lv_aload_n hx hb dX2_join_14 rfl (lv_at hl 1 rfl) ?_
  refine va_get (D := D) (ci := 2) (v := .ref qbe) (C := RX2) (T := TX2) (N := 6) hx hb hts hinX2 hown hK.1 hP 0 rfl rfl 2 (by decide) (hts (.fieldLink RX2 15 "CairnShells$Strata" "belows" "[I") (by decide +kernel)) (fun _ h9 => h9) rfl dX2_join_15 ?_
  refine lv_iload_n hx hb dX2_join_18 rfl (lv_at hl 2 rfl) ?_
  refine my_iald (D := D) (j := i) hx hb hK hP 2 rfl (by omega) (by decide) dX2_join_19 ?_
  refine lv_aload_n hx hb dX2_join_20 rfl (lv_at hl 1 rfl) ?_
  refine va_get (D := D) (ci := 2) (v := .ref qbe) (C := RX2) (T := TX2) (N := 6) hx hb hts hinX2 hown hK.1 hP 0 rfl rfl 2 (by decide) (hts (.fieldLink RX2 15 "CairnShells$Strata" "belows" "[I") (by decide +kernel)) (fun _ h9 => h9) rfl dX2_join_21 ?_
  refine lv_iload_n hx hb dX2_join_24 rfl (lv_at hl 3 rfl) ?_
  refine my_iald (D := D) (j := j) hx hb hK hP 2 rfl (by omega) (by decide) dX2_join_25 ?_
  refine lv_ior hx hb dX2_join_26 ?_
  refine lv_istore (lv' := [(4, .int ((be i) ||| (be j))), (3, .int ((al i) ||| (al j))), (0, .ref qs), (1, .int (nI i)), (2, .int (nI j))]) hx hb dX2_join_27 hl (by decide) rfl (fun ls hl => ?_)
  refine lv_aload_n hx hb dX2_join_29 rfl (lv_at hl 2 rfl) ?_
  refine va_get (D := D) (ci := 2) (v := .ref qto) (C := RX2) (T := TX2) (N := 6) hx hb hts hinX2 hown hK.1 hP 0 rfl rfl 3 (by decide) (hts (.fieldLink RX2 18 "CairnShells$Strata" "tops" "[I") (by decide +kernel)) (fun _ h9 => h9) rfl dX2_join_30 ?_
  refine lv_iload_n hx hb dX2_join_33 rfl (lv_at hl 3 rfl) ?_
  refine my_iald (D := D) (j := i) hx hb hK hP 3 rfl (by omega) (by decide) dX2_join_34 ?_
  refine lv_aload_n hx hb dX2_join_35 rfl (lv_at hl 2 rfl) ?_
  refine va_get (D := D) (ci := 2) (v := .ref qto) (C := RX2) (T := TX2) (N := 6) hx hb hts hinX2 hown hK.1 hP 0 rfl rfl 3 (by decide) (hts (.fieldLink RX2 18 "CairnShells$Strata" "tops" "[I") (by decide +kernel)) (fun _ h9 => h9) rfl dX2_join_36 ?_
  refine lv_iload_n hx hb dX2_join_39 rfl (lv_at hl 4 rfl) ?_
  refine my_iald (D := D) (j := j) hx hb hK hP 3 rfl (by omega) (by decide) dX2_join_40 ?_
  refine lv_ior hx hb dX2_join_41 ?_
  refine lv_istore (lv' := [(5, .int ((to i) ||| (to j))), (4, .int ((be i) ||| (be j))), (3, .int ((al i) ||| (al j))), (0, .ref qs), (1, .int (nI i)), (2, .int (nI j))]) hx hb dX2_join_42 hl (by decide) rfl (fun ls hl => ?_)
  refine lv_iconst (v := 0) hx hb dX2_join_44 (by decide) ?_
  refine lv_istore (lv' := [(6, .int 0), (5, .int ((to i) ||| (to j))), (4, .int ((be i) ||| (be j))), (3, .int ((al i) ||| (al j))), (0, .ref qs), (1, .int (nI i)), (2, .int (nI j))]) hx hb dX2_join_45 hl (by decide) rfl (fun ls hl => ?_)
  suffices loop : ∀ (n k : Nat) (f1 : Nat → Int32), k ≤ N → N < k + n → f1 = stU al (al i ||| al j) k → ∀ (H : Heap) (locs : List Loc), va_P D vwCl [(qs, .inr (2, [.int (nI N), .ref qal, .ref qbe, .ref qto, .ref qod, .ref qph])), (qal, .inl (cA, 14, .inl f1)), (qbe, .inl (cA, 14, .inl be)), (qto, .inl (cA, 14, .inl to)), (qod, .inl (cA, 14, .inl od)), (qph, .inl (cA, 14, .inl ph))] H → va_D A [(qs, .inr (2, [.int (nI N), .ref qal, .ref qbe, .ref qto, .ref qod, .ref qph])), (qal, .inl (cA, 14, .inl f1)), (qbe, .inl (cA, 14, .inl be)), (qto, .inl (cA, 14, .inl to)), (qod, .inl (cA, 14, .inl od)), (qph, .inl (cA, 14, .inl ph))] → va_S A H0 H locs → ∀ ls, lv_has ls 7 [(6, .int (nI k)), (5, .int ((to i) ||| (to j))), (4, .int ((be i) ||| (be j))), (3, .int ((al i) ||| (al j))), (0, .ref qs), (1, .int (nI i)), (2, .int (nI j))] → W p l e { frames := 3, cells := 0, slots := 0, locals := 67 } s m ([.ref qs, .int (nI i), .int (nI j)] : List Value).toArray below meth c H locs (0) (0) (MQ below (wrQ none D [(qs, .inr (2, [.int (nI N), .ref qal, .ref qbe, .ref qto, .ref qod, .ref qph])), (qal, .inl (cA, 14, .inl al)), (qbe, .inl (cA, 14, .inl be)), (qto, .inl (cA, 14, .inl to)), (qod, .inl (cA, 14, .inl od)), (qph, .inl (cA, 14, .inl ph))] [(qs, .inr (2, [.int (nI N), .ref qal, .ref qbe, .ref qto, .ref qod, .ref qph])), (qal, .inl (cA, 14, .inl (stU al (al i ||| al j) N))), (qbe, .inl (cA, 14, .inl (lkU (lkU be ((al i ||| al j) ||| (to i ||| to j)) (be i ||| be j) N) (to i ||| to j) (al i ||| al j) N))), (qto, .inl (cA, 14, .inl (lkU (lkU to (be i ||| be j) ((al i ||| al j) ||| (to i ||| to j)) N) (al i ||| al j) (to i ||| to j) N))), (qod, .inl (cA, 14, .inl (arO N (lkU (lkU be ((al i ||| al j) ||| (to i ||| to j)) (be i ||| be j) N) (to i ||| to j) (al i ||| al j) N) od N))), (qph, .inl (cA, 14, .inl (arP N (lkU (lkU be ((al i ||| al j) ||| (to i ||| to j)) (be i ||| be j) N) (to i ||| to j) (al i ||| al j) N) ph N)))] H0) ([.ref qs, .int (nI i), .int (nI j)] : List Value).toArray s 0 0 A) (F0 m 47 ls []) from loop (N + 1) 0 al (by omega) (by omega) (by first | rfl | simp [stU_0]) _ _ hP hD hS _ (lv_sub hl [0, 1, 2, 3, 4, 5, 6] rfl)
  intro n
  induction n with
  | zero => intro k f1 hk1 hk2; exact absurd hk2 (by omega)
  | succ n ih47 =>
    intro k f1 hk47 hn47 ef1 H locs hP hD hS ls hl
    refine lv_iload hx hb dX2_join_47 (lv_at hl 0 rfl) ?_
    refine lv_aload_n hx hb dX2_join_49 rfl (lv_at hl 4 rfl) ?_
    refine va_get (D := D) (ci := 2) (v := .int (nI N)) (C := RX2) (T := TX2) (N := 6) hx hb hts hinX2 hown hK.1 hP 0 rfl rfl 0 (by decide) (hts (.fieldLink RX2 27 "CairnShells$Strata" "layers" "I") (by decide +kernel)) (fun _ h9 => h9) rfl dX2_join_50 ?_
    refine my_geN (x := k) (y := N) (tgt := 79) hx hb dX2_join_53 (by decide) (by omega) (by omega) (fun h1 => ?_) (fun h1 => ?_)
    · obtain rfl : N = k := by omega
      subst ef1
      refine lv_aload_n hx hb dX2_join_79 rfl (lv_at hl 4 rfl) ?_
      refine lv_iload_n hx hb dX2_join_80 rfl (lv_at hl 3 rfl) ?_
      refine lv_iload hx hb dX2_join_81 (lv_at hl 1 rfl) ?_
      refine lv_ior hx hb dX2_join_83 ?_
      refine lv_iload hx hb dX2_join_84 (lv_at hl 2 rfl) ?_
      refine WR_go (ws' := [(qs, .inr (2, [.int (nI N), .ref qal, .ref qbe, .ref qto, .ref qod, .ref qph])), (qal, .inl (cA, 14, .inl (stU al (al i ||| al j) N))), (qbe, .inl (cA, 14, .inl (lkU be (((al i) ||| (al j)) ||| ((to i) ||| (to j))) ((be i) ||| (be j)) N))), (qto, .inl (cA, 14, .inl (lkU to ((be i) ||| (be j)) (((al i) ||| (al j)) ||| ((to i) ||| (to j))) N))), (qod, .inl (cA, 14, .inl od)), (qph, .inl (cA, 14, .inl ph))]) (va_runV (As := [.int (((al i) ||| (al j)) ||| ((to i) ||| (to j))), .int ((be i) ||| (be j))]) (rest := []) ⟨hx, hb, hml, hown, hts⟩ (c_X2_link l (D := D) (cA := cA) (H0 := H) (x := ((al i) ||| (al j)) ||| ((to i) ||| (to j))) (y := (be i) ||| (be j)) (hN := by omega) (hP := hP.sub (ws' := [(qs, .inr (2, [.int (nI N), .ref qal, .ref qbe, .ref qto, .ref qod, .ref qph])), (qbe, .inl (cA, 14, .inl be)), (qto, .inl (cA, 14, .inl to))]) [0, 2, 3] rfl) (hD0 := (hD.sub (ws' := [(qs, .inr (2, [.int (nI N), .ref qal, .ref qbe, .ref qto, .ref qod, .ref qph])), (qbe, .inl (cA, 14, .inl be)), (qto, .inl (cA, 14, .inl to))]) [0, 2, 3] (by decide) rfl).weaken (fun _ _ _ _ => trivial))) (cwV 2 hts gX2_join_X2_link rfl rfl rfl (by decide +kernel) ⟨Nat.le_of_ble_eq_true rfl, Nat.le_of_ble_eq_true rfl⟩) (cP_V hK (va_recv hK.1 hP (ci := 2) (q0 := 0) rfl rfl)) rfl rfl hl.1 rfl (lv_room (Nat.le_of_ble_eq_true rfl)) dX2_join_86 ⟨by omega, by omega⟩) hP hD hS hA [0, 2, 3] [1, 4, 5] rfl (by decide) (by decide) [3, 0, 4, 5, 1, 2] rfl (fun H locs hP hS hz => ?_)
      have hD : va_D A [(qs, .inr (2, [.int (nI N), .ref qal, .ref qbe, .ref qto, .ref qod, .ref qph])), (qal, .inl (cA, 14, .inl (stU al (al i ||| al j) N))), (qbe, .inl (cA, 14, .inl (lkU be (((al i) ||| (al j)) ||| ((to i) ||| (to j))) ((be i) ||| (be j)) N))), (qto, .inl (cA, 14, .inl (lkU to ((be i) ||| (be j)) (((al i) ||| (al j)) ||| ((to i) ||| (to j))) N))), (qod, .inl (cA, 14, .inl od)), (qph, .inl (cA, 14, .inl ph))] := hD.adr rfl
      refine lv_aload_n hx hb dX2_join_89 rfl (lv_at hl 4 rfl) ?_
      refine lv_iload hx hb dX2_join_90 (lv_at hl 1 rfl) ?_
      refine lv_iload_n hx hb dX2_join_92 rfl (lv_at hl 3 rfl) ?_
      refine WR_go (ws' := [(qs, .inr (2, [.int (nI N), .ref qal, .ref qbe, .ref qto, .ref qod, .ref qph])), (qal, .inl (cA, 14, .inl (stU al (al i ||| al j) N))), (qbe, .inl (cA, 14, .inl (lkU (lkU be (((al i) ||| (al j)) ||| ((to i) ||| (to j))) ((be i) ||| (be j)) N) ((to i) ||| (to j)) ((al i) ||| (al j)) N))), (qto, .inl (cA, 14, .inl (lkU (lkU to ((be i) ||| (be j)) (((al i) ||| (al j)) ||| ((to i) ||| (to j))) N) ((al i) ||| (al j)) ((to i) ||| (to j)) N))), (qod, .inl (cA, 14, .inl od)), (qph, .inl (cA, 14, .inl ph))]) (va_runV (As := [.int ((to i) ||| (to j)), .int ((al i) ||| (al j))]) (rest := []) ⟨hx, hb, hml, hown, hts⟩ (c_X2_link l (D := D) (cA := cA) (H0 := H) (x := (to i) ||| (to j)) (y := (al i) ||| (al j)) (hN := by omega) (hP := hP.sub (ws' := [(qs, .inr (2, [.int (nI N), .ref qal, .ref qbe, .ref qto, .ref qod, .ref qph])), (qbe, .inl (cA, 14, .inl (lkU be (((al i) ||| (al j)) ||| ((to i) ||| (to j))) ((be i) ||| (be j)) N))), (qto, .inl (cA, 14, .inl (lkU to ((be i) ||| (be j)) (((al i) ||| (al j)) ||| ((to i) ||| (to j))) N)))]) [0, 2, 3] rfl) (hD0 := (hD.sub (ws' := [(qs, .inr (2, [.int (nI N), .ref qal, .ref qbe, .ref qto, .ref qod, .ref qph])), (qbe, .inl (cA, 14, .inl (lkU be (((al i) ||| (al j)) ||| ((to i) ||| (to j))) ((be i) ||| (be j)) N))), (qto, .inl (cA, 14, .inl (lkU to ((be i) ||| (be j)) (((al i) ||| (al j)) ||| ((to i) ||| (to j))) N)))]) [0, 2, 3] (by decide) rfl).weaken (fun _ _ _ _ => trivial))) (cwV 2 hts gX2_join_X2_link rfl rfl rfl (by decide +kernel) ⟨Nat.le_of_ble_eq_true rfl, Nat.le_of_ble_eq_true rfl⟩) (cP_V hK (va_recv hK.1 hP (ci := 2) (q0 := 0) rfl rfl)) rfl rfl hl.1 rfl (lv_room (Nat.le_of_ble_eq_true rfl)) dX2_join_93 ⟨by omega, by omega⟩) hP hD hS hA [0, 2, 3] [1, 4, 5] rfl (by decide) (by decide) [3, 0, 4, 5, 1, 2] rfl (fun H locs hP hS hz => ?_)
      have hD : va_D A [(qs, .inr (2, [.int (nI N), .ref qal, .ref qbe, .ref qto, .ref qod, .ref qph])), (qal, .inl (cA, 14, .inl (stU al (al i ||| al j) N))), (qbe, .inl (cA, 14, .inl (lkU (lkU be (((al i) ||| (al j)) ||| ((to i) ||| (to j))) ((be i) ||| (be j)) N) ((to i) ||| (to j)) ((al i) ||| (al j)) N))), (qto, .inl (cA, 14, .inl (lkU (lkU to ((be i) ||| (be j)) (((al i) ||| (al j)) ||| ((to i) ||| (to j))) N) ((al i) ||| (al j)) ((to i) ||| (to j)) N))), (qod, .inl (cA, 14, .inl od)), (qph, .inl (cA, 14, .inl ph))] := hD.adr rfl
      refine lv_aload_n hx hb dX2_join_96 rfl (lv_at hl 4 rfl) ?_
      refine WR_go (ws' := [(qs, .inr (2, [.int (nI N), .ref qal, .ref qbe, .ref qto, .ref qod, .ref qph])), (qal, .inl (cA, 14, .inl (stU al (al i ||| al j) N))), (qbe, .inl (cA, 14, .inl (lkU (lkU be (((al i) ||| (al j)) ||| ((to i) ||| (to j))) ((be i) ||| (be j)) N) ((to i) ||| (to j)) ((al i) ||| (al j)) N))), (qto, .inl (cA, 14, .inl (lkU (lkU to ((be i) ||| (be j)) (((al i) ||| (al j)) ||| ((to i) ||| (to j))) N) ((al i) ||| (al j)) ((to i) ||| (to j)) N))), (qod, .inl (cA, 14, .inl (arO N (lkU (lkU be (((al i) ||| (al j)) ||| ((to i) ||| (to j))) ((be i) ||| (be j)) N) ((to i) ||| (to j)) ((al i) ||| (al j)) N) od N))), (qph, .inl (cA, 14, .inl (arP N (lkU (lkU be (((al i) ||| (al j)) ||| ((to i) ||| (to j))) ((be i) ||| (be j)) N) ((to i) ||| (to j)) ((al i) ||| (al j)) N) ph N)))]) (va_runV (As := []) (rest := []) ⟨hx, hb, hml, hown, hts⟩ (c_X2_arrange l (D := D) (cA := cA) (H0 := H) (hN1 := by omega) (hN := by omega) (hP := hP.sub (ws' := [(qs, .inr (2, [.int (nI N), .ref qal, .ref qbe, .ref qto, .ref qod, .ref qph])), (qbe, .inl (cA, 14, .inl (lkU (lkU be (((al i) ||| (al j)) ||| ((to i) ||| (to j))) ((be i) ||| (be j)) N) ((to i) ||| (to j)) ((al i) ||| (al j)) N))), (qod, .inl (cA, 14, .inl od)), (qph, .inl (cA, 14, .inl ph))]) [0, 2, 4, 5] rfl) (hD0 := (hD.sub (ws' := [(qs, .inr (2, [.int (nI N), .ref qal, .ref qbe, .ref qto, .ref qod, .ref qph])), (qbe, .inl (cA, 14, .inl (lkU (lkU be (((al i) ||| (al j)) ||| ((to i) ||| (to j))) ((be i) ||| (be j)) N) ((to i) ||| (to j)) ((al i) ||| (al j)) N))), (qod, .inl (cA, 14, .inl od)), (qph, .inl (cA, 14, .inl ph))]) [0, 2, 4, 5] (by decide) rfl).weaken (fun _ _ _ _ => trivial))) (cwV 0 hts gX2_join_X2_arrange rfl rfl rfl (by decide +kernel) ⟨Nat.le_of_ble_eq_true rfl, Nat.le_of_ble_eq_true rfl⟩) (cP_V hK (va_recv hK.1 hP (ci := 2) (q0 := 0) rfl rfl)) rfl rfl hl.1 rfl (lv_room (Nat.le_of_ble_eq_true rfl)) dX2_join_97 ⟨by omega, by omega⟩) hP hD hS hA [0, 2, 4, 5] [1, 3] rfl (by decide) (by decide) [2, 0, 3, 1, 4, 5] rfl (fun H locs hP hS hz => ?_)
      have hD : va_D A [(qs, .inr (2, [.int (nI N), .ref qal, .ref qbe, .ref qto, .ref qod, .ref qph])), (qal, .inl (cA, 14, .inl (stU al (al i ||| al j) N))), (qbe, .inl (cA, 14, .inl (lkU (lkU be (((al i) ||| (al j)) ||| ((to i) ||| (to j))) ((be i) ||| (be j)) N) ((to i) ||| (to j)) ((al i) ||| (al j)) N))), (qto, .inl (cA, 14, .inl (lkU (lkU to ((be i) ||| (be j)) (((al i) ||| (al j)) ||| ((to i) ||| (to j))) N) ((al i) ||| (al j)) ((to i) ||| (to j)) N))), (qod, .inl (cA, 14, .inl (arO N (lkU (lkU be (((al i) ||| (al j)) ||| ((to i) ||| (to j))) ((be i) ||| (be j)) N) ((to i) ||| (to j)) ((al i) ||| (al j)) N) od N))), (qph, .inl (cA, 14, .inl (arP N (lkU (lkU be (((al i) ||| (al j)) ||| ((to i) ||| (to j))) ((be i) ||| (be j)) N) ((to i) ||| (to j)) ((al i) ||| (al j)) N) ph N)))] := hD.adr rfl
      exact WR_vret hAe hx hb hr hlk hH dX2_join_100 (by omega) (by omega) (hP.sub [0, 1, 2, 3, 4, 5] rfl) hS
    · refine lv_iload_n hx hb dX2_join_56 rfl (lv_at hl 3 rfl) ?_
      refine lv_iload hx hb dX2_join_57 (lv_at hl 0 rfl) ?_
      refine RO_go (va_runSN (As := [.int ((al i) ||| (al j)), .int (nI k)]) (rest := []) ⟨hx, hb, hml, hown, hts⟩ (c_X3_has l (D := D) (cA := cA) (H0 := H) (x := (al i) ||| (al j)) (j := k) (hj := by omega)) ⟨va_cnB 2 hts gX2_join_X3_has_n31 rfl rfl rfl hK.2.2.2 (hts (.initialized RX3) (by decide +kernel)) (by decide +kernel) ⟨Nat.le_of_ble_eq_true rfl, Nat.le_of_ble_eq_true rfl⟩, (hts (.static yX3_has) (by decide +kernel)), trivial⟩ (cP_S hK) rfl rfl hl.1 rfl (lv_room (Nat.le_of_ble_eq_true rfl)) dX2_join_59 ⟨by omega, by omega⟩) ?_
      refine my_ifeq_b (tgt := 73) hx hb dX2_join_62 (by decide) (fun h2 => ?_) (fun h2 => ?_)
      · refine lv_iinc (v := nI (k + 1)) (x := nI k) (lv' := [(6, .int (nI (k + 1))), (5, .int ((to i) ||| (to j))), (4, .int ((be i) ||| (be j))), (3, .int ((al i) ||| (al j))), (0, .ref qs), (1, .int (nI i)), (2, .int (nI j))]) hx hb dX2_join_73 hl (k := 0) rfl (nI_1 k) (by decide) rfl (fun ls hl => ?_)
        refine lv_goto (tgt := 47) hx hb dX2_join_76 (by decide) ?_
        exact ih47 (k + 1) f1 (by omega) (by omega) (by subst ef1; first | exact stU_t h2 | exact stU_f h2) _ _ hP hD hS _ (lv_sub hl [0, 1, 2, 3, 4, 5, 6] rfl)
      · refine lv_aload_n hx hb dX2_join_65 rfl (lv_at hl 4 rfl) ?_
        refine va_get (D := D) (ci := 2) (v := .ref qal) (C := RX2) (T := TX2) (N := 6) hx hb hts hinX2 hown hK.1 hP 0 rfl rfl 1 (by decide) (hts (.fieldLink RX2 9 "CairnShells$Strata" "alikes" "[I") (by decide +kernel)) (fun _ h9 => h9) rfl dX2_join_66 ?_
        refine lv_iload hx hb dX2_join_69 (lv_at hl 0 rfl) ?_
        refine lv_iload_n hx hb dX2_join_71 rfl (lv_at hl 3 rfl) ?_
        refine my_iast (D := D) (j := k) hx hb hK hP hD hS 1 rfl (by omega) (by decide) dX2_join_72 (fun H locs hP hD hS => ?_)
        have hP : va_P D vwCl [(qs, .inr (2, [.int (nI N), .ref qal, .ref qbe, .ref qto, .ref qod, .ref qph])), (qal, .inl (cA, 14, .inl (upd f1 k ((al i) ||| (al j))))), (qbe, .inl (cA, 14, .inl be)), (qto, .inl (cA, 14, .inl to)), (qod, .inl (cA, 14, .inl od)), (qph, .inl (cA, 14, .inl ph))] H := hP
        have hD : va_D A [(qs, .inr (2, [.int (nI N), .ref qal, .ref qbe, .ref qto, .ref qod, .ref qph])), (qal, .inl (cA, 14, .inl (upd f1 k ((al i) ||| (al j))))), (qbe, .inl (cA, 14, .inl be)), (qto, .inl (cA, 14, .inl to)), (qod, .inl (cA, 14, .inl od)), (qph, .inl (cA, 14, .inl ph))] := hD
        refine lv_iinc (v := nI (k + 1)) (x := nI k) (lv' := [(6, .int (nI (k + 1))), (5, .int ((to i) ||| (to j))), (4, .int ((be i) ||| (be j))), (3, .int ((al i) ||| (al j))), (0, .ref qs), (1, .int (nI i)), (2, .int (nI j))]) hx hb dX2_join_73 hl (k := 0) rfl (nI_1 k) (by decide) rfl (fun ls hl => ?_)
        refine lv_goto (tgt := 47) hx hb dX2_join_76 (by decide) ?_
        exact ih47 (k + 1) (upd f1 k ((al i) ||| (al j))) (by omega) (by omega) (by subst ef1; first | exact stU_t h2 | exact stU_f h2) _ _ hP hD hS _ (lv_sub hl [0, 1, 2, 3, 4, 5, 6] rfl)
end
section
set_option maxHeartbeats 4000000 in
set_option maxRecDepth 100000 in
theorem c_X3_mixed (l : Launch) {D : va_G} {cA : ClassId} {H0 : Heap}  (a : Int64) (b : Int64) : RO l yX3_mixed wsX3_mixed 0 0 [.long a, .long b] D cA H0 (some (.long (a * 31 + b))) := by
  refine RO_of (cc := cX3_mixed) (maxL := 4) (ret := (some .long)) (by decide) rfl (Nat.le_of_ble_eq_true rfl) ?_
  intro p e s m below meth c ls hx hb hml hr hown hts hlk hH hK hl
  have hown : s.vm.findClass RX3 = some m.cls := hown
  have hl : lv_has ls 4 [(0, .long a), (2, .long b)] := hl
  refine lv_lload_n hx hb dX3_mixed_0 rfl (lv_at hl 0 rfl) ?_
  refine lv_ldc2 (v := 31) hx hb hown (hts (.constantLong RX3 166 (31)) (by decide +kernel)) dX3_mixed_1 ?_
  refine lv_lmul hx hb dX3_mixed_4 ?_
  refine lv_lload_n hx hb dX3_mixed_5 rfl (lv_at hl 1 rfl) ?_
  refine lv_ladd hx hb dX3_mixed_6 ?_
  exact RO_lret hx hb hr hlk hH dX3_mixed_7 rfl
set_option maxHeartbeats 4000000 in
set_option maxRecDepth 100000 in
theorem c_X3_weight (l : Launch) {D : va_G} {cA : ClassId} {H0 : Heap}  (w : Nat) (x1 : Int32) (x2 : Int32) (x3 : Int32) (x4 : Int32) (hw : w < 4) : RO l yX3_weight wsX3_weight 0 0 [.int (nI w), .int x1, .int x2, .int x3, .int x4] D cA H0 (some (.int (wgt x1 x2 x3 x4 w))) := by
  refine RO_of (cc := cX3_weight) (maxL := 5) (ret := (some .int)) (by decide) rfl (Nat.le_of_ble_eq_true rfl) ?_
  intro p e s m below meth c ls hx hb hml hr hown hts hlk hH hK hl
  have hown : s.vm.findClass RX3 = some m.cls := hown
  have hl : lv_has ls 5 [(0, .int (nI w)), (1, .int x1), (2, .int x2), (3, .int x3), (4, .int x4)] := hl
  refine lv_iload_n hx hb dX3_weight_0 rfl (lv_at hl 0 rfl) ?_
  rcases (show w = 0 ∨ w = 1 ∨ w = 2 ∨ w = 3 by omega) with rfl | rfl | rfl | rfl
  · have hl : lv_has ls 5 [(0, .int (nI 0)), (1, .int x1), (2, .int x2), (3, .int x3), (4, .int x4)] := hl
    refine lv_tableIn (tgt := 28) hx hb dX3_weight_1 (by decide) (by decide) rfl (by decide) ?_
    refine lv_iconst (v := 3) hx hb dX3_weight_28 (by decide) ?_
    refine lv_iload_n hx hb dX3_weight_29 rfl (lv_at hl 1 rfl) ?_
    refine lv_imul hx hb dX3_weight_30 ?_
    refine lv_iload hx hb dX3_weight_31 (lv_at hl 4 rfl) ?_
    refine lv_iadd hx hb dX3_weight_33 ?_
    exact RO_zret hx hb hr hlk hH dX3_weight_34 (by rfl) rfl
  · have hl : lv_has ls 5 [(0, .int (nI 1)), (1, .int x1), (2, .int x2), (3, .int x3), (4, .int x4)] := hl
    refine lv_tableIn (tgt := 35) hx hb dX3_weight_1 (by decide) (by decide) rfl (by decide) ?_
    refine lv_iconst (v := 2) hx hb dX3_weight_35 (by decide) ?_
    refine lv_iload_n hx hb dX3_weight_36 rfl (lv_at hl 2 rfl) ?_
    refine lv_imul hx hb dX3_weight_37 ?_
    refine lv_iload_n hx hb dX3_weight_38 rfl (lv_at hl 3 rfl) ?_
    refine lv_iconst (v := 2) hx hb dX3_weight_39 (by decide) ?_
    refine lv_idiv hx hb dX3_weight_40 (by decide) ?_
    refine lv_iadd hx hb dX3_weight_41 ?_
    exact RO_zret hx hb hr hlk hH dX3_weight_42 (by rfl) rfl
  · have hl : lv_has ls 5 [(0, .int (nI 2)), (1, .int x1), (2, .int x2), (3, .int x3), (4, .int x4)] := hl
    refine lv_tableIn (tgt := 43) hx hb dX3_weight_1 (by decide) (by decide) rfl (by decide) ?_
    refine lv_iconst (v := 2) hx hb dX3_weight_43 (by decide) ?_
    refine lv_iload_n hx hb dX3_weight_44 rfl (lv_at hl 3 rfl) ?_
    refine lv_imul hx hb dX3_weight_45 ?_
    refine lv_iload_n hx hb dX3_weight_46 rfl (lv_at hl 2 rfl) ?_
    refine lv_iadd hx hb dX3_weight_47 ?_
    exact RO_zret hx hb hr hlk hH dX3_weight_48 (by rfl) rfl
  · have hl : lv_has ls 5 [(0, .int (nI 3)), (1, .int x1), (2, .int x2), (3, .int x3), (4, .int x4)] := hl
    refine lv_tableOut (tgt := 49) hx hb dX3_weight_1 (by decide) (by decide) ?_
    refine lv_iconst (v := 4) hx hb dX3_weight_49 (by decide) ?_
    refine lv_iload hx hb dX3_weight_50 (lv_at hl 4 rfl) ?_
    refine lv_imul hx hb dX3_weight_52 ?_
    refine lv_iload_n hx hb dX3_weight_53 rfl (lv_at hl 1 rfl) ?_
    refine lv_iadd hx hb dX3_weight_54 ?_
    exact RO_zret hx hb hr hlk hH dX3_weight_55 (by rfl) rfl
set_option maxHeartbeats 4000000 in
set_option maxRecDepth 100000 in
theorem c_X3_firstYear (l : Launch) {D : va_G} {cA : ClassId} {H0 : Heap} {qx qs qv qh qt qal qbe qto qod qph N : Nat} {al be : Nat → Int32} {qd qf ql : Nat} {bu : Int32} {fi : Nat → Int32} (j : Nat) (hj : j < 14) (hP : va_P D vwCl [(qx, .inr (3, [.ref qs, .ref qv, .ref qh, .ref qt])), (qs, .inr (2, [.int (nI N), .ref qal, .ref qbe, .ref qto, .ref qod, .ref qph])), (qal, .inl (cA, 14, .inl al)), (qbe, .inl (cA, 14, .inl be)), (qd, .inr (0, [.int bu, .ref qf, .ref ql])), (qf, .inl (cA, 14, .inl fi))] H0) : RO l yX3_firstYear wsX3_firstYear 2 44 [.ref qx, .ref qd, .int (nI j)] D cA H0 (some (.int (fY al be fi j))) := by
  refine RO_of (cc := cX3_firstYear) (maxL := 3) (ret := (some .int)) (by decide) rfl (Nat.le_of_ble_eq_true rfl) ?_
  intro p e s m below meth c ls hx hb hml hr hown hts hlk hH hK hl
  have hown : s.vm.findClass RX3 = some m.cls := hown
  have hl : lv_has ls 3 [(0, .ref qx), (1, .ref qd), (2, .int (nI j))] := hl
  have hinX0 : ∀ w ∈ wsX00, w ∈ wsX3_firstYear := by decide +kernel
  have hinX2 : ∀ w ∈ wsX20, w ∈ wsX3_firstYear := by decide +kernel
  have hinX3 : ∀ w ∈ wsX30, w ∈ wsX3_firstYear := by decide +kernel
  refine lv_aload_n hx hb dX3_firstYear_0 rfl (lv_at hl 1 rfl) ?_
  refine lv_aload_n hx hb dX3_firstYear_1 rfl (lv_at hl 0 rfl) ?_
  refine va_get (D := D) (ci := 3) (v := .ref qs) (C := RX3) (T := TX3) (N := 4) hx hb hts hinX3 hown hK.1 hP 0 rfl rfl 0 (by decide) (hts (.fieldLink RX3 10 "CairnShells" "strata" "LCairnShells$Strata;") (by decide +kernel)) (fun _ h9 => h9) rfl dX3_firstYear_2 ?_
  refine lv_iload_n hx hb dX3_firstYear_5 rfl (lv_at hl 2 rfl) ?_
  refine RO_go (va_runV (As := [.int (nI j)]) (rest := [.ref qd]) ⟨hx, hb, hml, hown, hts⟩ (c_X2_alike l (D := D) (cA := cA) (H0 := H0) (j := j) (hj := by omega) (hP := hP.sub (ws' := [(qs, .inr (2, [.int (nI N), .ref qal, .ref qbe, .ref qto, .ref qod, .ref qph])), (qal, .inl (cA, 14, .inl al))]) [1, 2] rfl)) (cwV 1 hts gX3_firstYear_X2_alike rfl rfl rfl (by decide +kernel) ⟨Nat.le_of_ble_eq_true rfl, Nat.le_of_ble_eq_true rfl⟩) (cP_V hK (va_recv hK.1 hP (ci := 2) (q0 := 1) rfl rfl)) rfl rfl hl.1 rfl (lv_room (Nat.le_of_ble_eq_true rfl)) dX3_firstYear_6 ⟨by omega, by omega⟩) ?_
  refine lv_aload_n hx hb dX3_firstYear_9 rfl (lv_at hl 0 rfl) ?_
  refine va_get (D := D) (ci := 3) (v := .ref qs) (C := RX3) (T := TX3) (N := 4) hx hb hts hinX3 hown hK.1 hP 0 rfl rfl 0 (by decide) (hts (.fieldLink RX3 10 "CairnShells" "strata" "LCairnShells$Strata;") (by decide +kernel)) (fun _ h9 => h9) rfl dX3_firstYear_10 ?_
  refine lv_iload_n hx hb dX3_firstYear_13 rfl (lv_at hl 2 rfl) ?_
  refine RO_go (va_runV (As := [.int (nI j)]) (rest := [.int (al j), .ref qd]) ⟨hx, hb, hml, hown, hts⟩ (c_X2_below l (D := D) (cA := cA) (H0 := H0) (j := j) (hj := by omega) (hP := hP.sub (ws' := [(qs, .inr (2, [.int (nI N), .ref qal, .ref qbe, .ref qto, .ref qod, .ref qph])), (qbe, .inl (cA, 14, .inl be))]) [1, 3] rfl)) (cwV 1 hts gX3_firstYear_X2_below rfl rfl rfl (by decide +kernel) ⟨Nat.le_of_ble_eq_true rfl, Nat.le_of_ble_eq_true rfl⟩) (cP_V hK (va_recv hK.1 hP (ci := 2) (q0 := 1) rfl rfl)) rfl rfl hl.1 rfl (lv_room (Nat.le_of_ble_eq_true rfl)) dX3_firstYear_14 ⟨by omega, by omega⟩) ?_
  refine lv_ior hx hb dX3_firstYear_17 ?_
  refine RO_go (va_runV (As := [.int ((al j) ||| (be j))]) (rest := []) ⟨hx, hb, hml, hown, hts⟩ (c_X0_greatestFirst l (D := D) (cA := cA) (H0 := H0) (x := (al j) ||| (be j)) (hP := hP.sub (ws' := [(qd, .inr (0, [.int bu, .ref qf, .ref ql])), (qf, .inl (cA, 14, .inl fi))]) [4, 5] rfl)) (cwV 1 hts gX3_firstYear_X0_greatestFirst rfl rfl rfl (by decide +kernel) ⟨Nat.le_of_ble_eq_true rfl, Nat.le_of_ble_eq_true rfl⟩) (cP_V hK (va_recv hK.1 hP (ci := 0) (q0 := 4) rfl rfl)) rfl rfl hl.1 rfl (lv_room (Nat.le_of_ble_eq_true rfl)) dX3_firstYear_18 ⟨by omega, by omega⟩) ?_
  exact RO_zret hx hb hr hlk hH dX3_firstYear_21 (by rfl) rfl
set_option maxHeartbeats 4000000 in
set_option maxRecDepth 100000 in
theorem c_X3_lastYear (l : Launch) {D : va_G} {cA : ClassId} {H0 : Heap} {qx qs qv qh qt qal qbe qto qod qph N : Nat} {al to : Nat → Int32} {qd qf ql : Nat} {bu : Int32} {la : Nat → Int32} (j : Nat) (hj : j < 14) (hP : va_P D vwCl [(qx, .inr (3, [.ref qs, .ref qv, .ref qh, .ref qt])), (qs, .inr (2, [.int (nI N), .ref qal, .ref qbe, .ref qto, .ref qod, .ref qph])), (qal, .inl (cA, 14, .inl al)), (qto, .inl (cA, 14, .inl to)), (qd, .inr (0, [.int bu, .ref qf, .ref ql])), (ql, .inl (cA, 14, .inl la))] H0) : RO l yX3_lastYear wsX3_lastYear 2 44 [.ref qx, .ref qd, .int (nI j)] D cA H0 (some (.int (lY al to la j))) := by
  refine RO_of (cc := cX3_lastYear) (maxL := 3) (ret := (some .int)) (by decide) rfl (Nat.le_of_ble_eq_true rfl) ?_
  intro p e s m below meth c ls hx hb hml hr hown hts hlk hH hK hl
  have hown : s.vm.findClass RX3 = some m.cls := hown
  have hl : lv_has ls 3 [(0, .ref qx), (1, .ref qd), (2, .int (nI j))] := hl
  have hinX0 : ∀ w ∈ wsX00, w ∈ wsX3_lastYear := by decide +kernel
  have hinX2 : ∀ w ∈ wsX20, w ∈ wsX3_lastYear := by decide +kernel
  have hinX3 : ∀ w ∈ wsX30, w ∈ wsX3_lastYear := by decide +kernel
  refine lv_aload_n hx hb dX3_lastYear_0 rfl (lv_at hl 1 rfl) ?_
  refine lv_aload_n hx hb dX3_lastYear_1 rfl (lv_at hl 0 rfl) ?_
  refine va_get (D := D) (ci := 3) (v := .ref qs) (C := RX3) (T := TX3) (N := 4) hx hb hts hinX3 hown hK.1 hP 0 rfl rfl 0 (by decide) (hts (.fieldLink RX3 10 "CairnShells" "strata" "LCairnShells$Strata;") (by decide +kernel)) (fun _ h9 => h9) rfl dX3_lastYear_2 ?_
  refine lv_iload_n hx hb dX3_lastYear_5 rfl (lv_at hl 2 rfl) ?_
  refine RO_go (va_runV (As := [.int (nI j)]) (rest := [.ref qd]) ⟨hx, hb, hml, hown, hts⟩ (c_X2_alike l (D := D) (cA := cA) (H0 := H0) (j := j) (hj := by omega) (hP := hP.sub (ws' := [(qs, .inr (2, [.int (nI N), .ref qal, .ref qbe, .ref qto, .ref qod, .ref qph])), (qal, .inl (cA, 14, .inl al))]) [1, 2] rfl)) (cwV 1 hts gX3_lastYear_X2_alike rfl rfl rfl (by decide +kernel) ⟨Nat.le_of_ble_eq_true rfl, Nat.le_of_ble_eq_true rfl⟩) (cP_V hK (va_recv hK.1 hP (ci := 2) (q0 := 1) rfl rfl)) rfl rfl hl.1 rfl (lv_room (Nat.le_of_ble_eq_true rfl)) dX3_lastYear_6 ⟨by omega, by omega⟩) ?_
  refine lv_aload_n hx hb dX3_lastYear_9 rfl (lv_at hl 0 rfl) ?_
  refine va_get (D := D) (ci := 3) (v := .ref qs) (C := RX3) (T := TX3) (N := 4) hx hb hts hinX3 hown hK.1 hP 0 rfl rfl 0 (by decide) (hts (.fieldLink RX3 10 "CairnShells" "strata" "LCairnShells$Strata;") (by decide +kernel)) (fun _ h9 => h9) rfl dX3_lastYear_10 ?_
  refine lv_iload_n hx hb dX3_lastYear_13 rfl (lv_at hl 2 rfl) ?_
  refine RO_go (va_runV (As := [.int (nI j)]) (rest := [.int (al j), .ref qd]) ⟨hx, hb, hml, hown, hts⟩ (c_X2_onTop l (D := D) (cA := cA) (H0 := H0) (j := j) (hj := by omega) (hP := hP.sub (ws' := [(qs, .inr (2, [.int (nI N), .ref qal, .ref qbe, .ref qto, .ref qod, .ref qph])), (qto, .inl (cA, 14, .inl to))]) [1, 3] rfl)) (cwV 1 hts gX3_lastYear_X2_onTop rfl rfl rfl (by decide +kernel) ⟨Nat.le_of_ble_eq_true rfl, Nat.le_of_ble_eq_true rfl⟩) (cP_V hK (va_recv hK.1 hP (ci := 2) (q0 := 1) rfl rfl)) rfl rfl hl.1 rfl (lv_room (Nat.le_of_ble_eq_true rfl)) dX3_lastYear_14 ⟨by omega, by omega⟩) ?_
  refine lv_ior hx hb dX3_lastYear_17 ?_
  refine RO_go (va_runV (As := [.int ((al j) ||| (to j))]) (rest := []) ⟨hx, hb, hml, hown, hts⟩ (c_X0_leastLast l (D := D) (cA := cA) (H0 := H0) (x := (al j) ||| (to j)) (hP := hP.sub (ws' := [(qd, .inr (0, [.int bu, .ref qf, .ref ql])), (ql, .inl (cA, 14, .inl la))]) [4, 5] rfl)) (cwV 1 hts gX3_lastYear_X0_leastLast rfl rfl rfl (by decide +kernel) ⟨Nat.le_of_ble_eq_true rfl, Nat.le_of_ble_eq_true rfl⟩) (cP_V hK (va_recv hK.1 hP (ci := 0) (q0 := 4) rfl rfl)) rfl rfl hl.1 rfl (lv_room (Nat.le_of_ble_eq_true rfl)) dX3_lastYear_18 ⟨by omega, by omega⟩) ?_
  exact RO_zret hx hb hr hlk hH dX3_lastYear_21 (by rfl) rfl
set_option maxHeartbeats 4000000 in
set_option maxRecDepth 100000 in
theorem c_X3_span (l : Launch) {D : va_G} {cA : ClassId} {H0 : Heap} {qx qs qv qh qt qal qbe qto qod qph N : Nat} {al be to : Nat → Int32} {qd qf ql : Nat} {bu : Int32} {fi la : Nat → Int32} (j : Nat) (hj : j < 14) (hP : va_P D vwCl [(qx, .inr (3, [.ref qs, .ref qv, .ref qh, .ref qt])), (qs, .inr (2, [.int (nI N), .ref qal, .ref qbe, .ref qto, .ref qod, .ref qph])), (qal, .inl (cA, 14, .inl al)), (qbe, .inl (cA, 14, .inl be)), (qto, .inl (cA, 14, .inl to)), (qd, .inr (0, [.int bu, .ref qf, .ref ql])), (qf, .inl (cA, 14, .inl fi)), (ql, .inl (cA, 14, .inl la))] H0) : RO l yX3_span wsX3_span 3 66 [.ref qx, .ref qd, .int (nI j)] D cA H0 (some (.int (lY al to la j - fY al be fi j))) := by
  refine RO_of (cc := cX3_span) (maxL := 3) (ret := (some .int)) (by decide) rfl (Nat.le_of_ble_eq_true rfl) ?_
  intro p e s m below meth c ls hx hb hml hr hown hts hlk hH hK hl
  have hown : s.vm.findClass RX3 = some m.cls := hown
  have hl : lv_has ls 3 [(0, .ref qx), (1, .ref qd), (2, .int (nI j))] := hl
  have hinX0 : ∀ w ∈ wsX00, w ∈ wsX3_span := by decide +kernel
  have hinX2 : ∀ w ∈ wsX20, w ∈ wsX3_span := by decide +kernel
  have hinX3 : ∀ w ∈ wsX30, w ∈ wsX3_span := by decide +kernel
  refine lv_aload_n hx hb dX3_span_0 rfl (lv_at hl 0 rfl) ?_
  refine lv_aload_n hx hb dX3_span_1 rfl (lv_at hl 1 rfl) ?_
  refine lv_iload_n hx hb dX3_span_2 rfl (lv_at hl 2 rfl) ?_
  refine RO_go (va_runV (As := [.ref qd, .int (nI j)]) (rest := []) ⟨hx, hb, hml, hown, hts⟩ (c_X3_lastYear l (D := D) (cA := cA) (H0 := H0) (j := j) (hj := by omega) (hP := hP.sub (ws' := [(qx, .inr (3, [.ref qs, .ref qv, .ref qh, .ref qt])), (qs, .inr (2, [.int (nI N), .ref qal, .ref qbe, .ref qto, .ref qod, .ref qph])), (qal, .inl (cA, 14, .inl al)), (qto, .inl (cA, 14, .inl to)), (qd, .inr (0, [.int bu, .ref qf, .ref ql])), (ql, .inl (cA, 14, .inl la))]) [0, 1, 2, 4, 5, 7] rfl)) (cwV 2 hts gX3_span_X3_lastYear rfl rfl rfl (by decide +kernel) ⟨Nat.le_of_ble_eq_true rfl, Nat.le_of_ble_eq_true rfl⟩) (cP_V hK (va_recv hK.1 hP (ci := 3) (q0 := 0) rfl rfl)) rfl rfl hl.1 rfl (lv_room (Nat.le_of_ble_eq_true rfl)) dX3_span_3 ⟨by omega, by omega⟩) ?_
  refine lv_aload_n hx hb dX3_span_6 rfl (lv_at hl 0 rfl) ?_
  refine lv_aload_n hx hb dX3_span_7 rfl (lv_at hl 1 rfl) ?_
  refine lv_iload_n hx hb dX3_span_8 rfl (lv_at hl 2 rfl) ?_
  refine RO_go (va_runV (As := [.ref qd, .int (nI j)]) (rest := [.int (lY al to la j)]) ⟨hx, hb, hml, hown, hts⟩ (c_X3_firstYear l (D := D) (cA := cA) (H0 := H0) (j := j) (hj := by omega) (hP := hP.sub (ws' := [(qx, .inr (3, [.ref qs, .ref qv, .ref qh, .ref qt])), (qs, .inr (2, [.int (nI N), .ref qal, .ref qbe, .ref qto, .ref qod, .ref qph])), (qal, .inl (cA, 14, .inl al)), (qbe, .inl (cA, 14, .inl be)), (qd, .inr (0, [.int bu, .ref qf, .ref ql])), (qf, .inl (cA, 14, .inl fi))]) [0, 1, 2, 3, 5, 6] rfl)) (cwV 2 hts gX3_span_X3_firstYear rfl rfl rfl (by decide +kernel) ⟨Nat.le_of_ble_eq_true rfl, Nat.le_of_ble_eq_true rfl⟩) (cP_V hK (va_recv hK.1 hP (ci := 3) (q0 := 0) rfl rfl)) rfl rfl hl.1 rfl (lv_room (Nat.le_of_ble_eq_true rfl)) dX3_span_9 ⟨by omega, by omega⟩) ?_
  refine lv_isub hx hb dX3_span_12 ?_
  exact RO_zret hx hb hr hlk hH dX3_span_13 (by rfl) rfl
set_option maxHeartbeats 4000000 in
set_option maxRecDepth 100000 in
theorem c_X3_isDoubtful (l : Launch) {D : va_G} {cA : ClassId} {H0 : Heap} {qx qs qv qh qt qal qbe qto qod qph N : Nat} {al be to : Nat → Int32} {qd qf ql : Nat} {bu : Int32} {fi la : Nat → Int32} (j : Nat) (hj : j < 14) (hP : va_P D vwCl [(qx, .inr (3, [.ref qs, .ref qv, .ref qh, .ref qt])), (qs, .inr (2, [.int (nI N), .ref qal, .ref qbe, .ref qto, .ref qod, .ref qph])), (qal, .inl (cA, 14, .inl al)), (qbe, .inl (cA, 14, .inl be)), (qto, .inl (cA, 14, .inl to)), (qd, .inr (0, [.int bu, .ref qf, .ref ql])), (qf, .inl (cA, 14, .inl fi)), (ql, .inl (cA, 14, .inl la))] H0) : RO l yX3_isDoubtful wsX3_isDoubtful 3 66 [.ref qx, .ref qd, .int (nI j)] D cA H0 (some (.int (bI (dbt al be to fi la j)))) := by
  refine RO_of (cc := cX3_isDoubtful) (maxL := 3) (ret := (some .boolean)) (by decide) rfl (Nat.le_of_ble_eq_true rfl) ?_
  intro p e s m below meth c ls hx hb hml hr hown hts hlk hH hK hl
  have hown : s.vm.findClass RX3 = some m.cls := hown
  have hl : lv_has ls 3 [(0, .ref qx), (1, .ref qd), (2, .int (nI j))] := hl
  have hinX0 : ∀ w ∈ wsX00, w ∈ wsX3_isDoubtful := by decide +kernel
  have hinX2 : ∀ w ∈ wsX20, w ∈ wsX3_isDoubtful := by decide +kernel
  have hinX3 : ∀ w ∈ wsX30, w ∈ wsX3_isDoubtful := by decide +kernel
  refine lv_aload_n hx hb dX3_isDoubtful_0 rfl (lv_at hl 0 rfl) ?_
  refine lv_aload_n hx hb dX3_isDoubtful_1 rfl (lv_at hl 1 rfl) ?_
  refine lv_iload_n hx hb dX3_isDoubtful_2 rfl (lv_at hl 2 rfl) ?_
  refine RO_go (va_runV (As := [.ref qd, .int (nI j)]) (rest := []) ⟨hx, hb, hml, hown, hts⟩ (c_X3_firstYear l (D := D) (cA := cA) (H0 := H0) (j := j) (hj := by omega) (hP := hP.sub (ws' := [(qx, .inr (3, [.ref qs, .ref qv, .ref qh, .ref qt])), (qs, .inr (2, [.int (nI N), .ref qal, .ref qbe, .ref qto, .ref qod, .ref qph])), (qal, .inl (cA, 14, .inl al)), (qbe, .inl (cA, 14, .inl be)), (qd, .inr (0, [.int bu, .ref qf, .ref ql])), (qf, .inl (cA, 14, .inl fi))]) [0, 1, 2, 3, 5, 6] rfl)) (cwV 2 hts gX3_isDoubtful_X3_firstYear rfl rfl rfl (by decide +kernel) ⟨Nat.le_of_ble_eq_true rfl, Nat.le_of_ble_eq_true rfl⟩) (cP_V hK (va_recv hK.1 hP (ci := 3) (q0 := 0) rfl rfl)) rfl rfl hl.1 rfl (lv_room (Nat.le_of_ble_eq_true rfl)) dX3_isDoubtful_3 ⟨by omega, by omega⟩) ?_
  refine lv_aload_n hx hb dX3_isDoubtful_6 rfl (lv_at hl 0 rfl) ?_
  refine lv_aload_n hx hb dX3_isDoubtful_7 rfl (lv_at hl 1 rfl) ?_
  refine lv_iload_n hx hb dX3_isDoubtful_8 rfl (lv_at hl 2 rfl) ?_
  refine RO_go (va_runV (As := [.ref qd, .int (nI j)]) (rest := [.int (fY al be fi j)]) ⟨hx, hb, hml, hown, hts⟩ (c_X3_lastYear l (D := D) (cA := cA) (H0 := H0) (j := j) (hj := by omega) (hP := hP.sub (ws' := [(qx, .inr (3, [.ref qs, .ref qv, .ref qh, .ref qt])), (qs, .inr (2, [.int (nI N), .ref qal, .ref qbe, .ref qto, .ref qod, .ref qph])), (qal, .inl (cA, 14, .inl al)), (qto, .inl (cA, 14, .inl to)), (qd, .inr (0, [.int bu, .ref qf, .ref ql])), (ql, .inl (cA, 14, .inl la))]) [0, 1, 2, 4, 5, 7] rfl)) (cwV 2 hts gX3_isDoubtful_X3_lastYear rfl rfl rfl (by decide +kernel) ⟨Nat.le_of_ble_eq_true rfl, Nat.le_of_ble_eq_true rfl⟩) (cP_V hK (va_recv hK.1 hP (ci := 3) (q0 := 0) rfl rfl)) rfl rfl hl.1 rfl (lv_room (Nat.le_of_ble_eq_true rfl)) dX3_isDoubtful_9 ⟨by omega, by omega⟩) ?_
  refine lv_icmp_le (tgt := 19) hx hb dX3_isDoubtful_12 (by decide) (fun h1 => ?_) (fun h1 => ?_)
  · refine lv_iconst (v := 0) hx hb dX3_isDoubtful_19 (by decide) ?_
    exact RO_zret hx hb hr hlk hH dX3_isDoubtful_20 (by decide) (by first | rfl | simp [bI, dbt, h1])
  · refine lv_iconst (v := 1) hx hb dX3_isDoubtful_15 (by decide) ?_
    refine lv_goto (tgt := 20) hx hb dX3_isDoubtful_16 (by decide) ?_
    exact RO_zret hx hb hr hlk hH dX3_isDoubtful_20 (by decide) (by first | rfl | simp [bI, dbt, h1])
set_option maxHeartbeats 4000000 in
set_option maxRecDepth 100000 in
theorem c_X3_doubtfulLayers (l : Launch) {D : va_G} {cA : ClassId} {H0 : Heap} {qx qs qv qh qt qal qbe qto qod qph N : Nat} {al be to : Nat → Int32} {qd qf ql : Nat} {bu : Int32} {fi la : Nat → Int32} (hN : N ≤ 14) (hP : va_P D vwCl [(qx, .inr (3, [.ref qs, .ref qv, .ref qh, .ref qt])), (qs, .inr (2, [.int (nI N), .ref qal, .ref qbe, .ref qto, .ref qod, .ref qph])), (qal, .inl (cA, 14, .inl al)), (qbe, .inl (cA, 14, .inl be)), (qto, .inl (cA, 14, .inl to)), (qd, .inr (0, [.int bu, .ref qf, .ref ql])), (qf, .inl (cA, 14, .inl fi)), (ql, .inl (cA, 14, .inl la))] H0) : RO l yX3_doubtfulLayers wsX3_doubtfulLayers 4 88 [.ref qx, .ref qd] D cA H0 (some (.int (nI (ct (dbt al be to fi la) N)))) := by
  refine RO_of (cc := cX3_doubtfulLayers) (maxL := 4) (ret := (some .int)) (by decide) rfl (Nat.le_of_ble_eq_true rfl) ?_
  intro p e s m below meth c ls hx hb hml hr hown hts hlk hH hK hl
  have hown : s.vm.findClass RX3 = some m.cls := hown
  have hl : lv_has ls 4 [(0, .ref qx), (1, .ref qd)] := hl
  have hinX0 : ∀ w ∈ wsX00, w ∈ wsX3_doubtfulLayers := by decide +kernel
  have hinX2 : ∀ w ∈ wsX20, w ∈ wsX3_doubtfulLayers := by decide +kernel
  have hinX3 : ∀ w ∈ wsX30, w ∈ wsX3_doubtfulLayers := by decide +kernel
  refine lv_iconst (v := 0) hx hb dX3_doubtfulLayers_0 (by decide) ?_
  refine lv_istore_n (lv' := [(2, .int 0), (0, .ref qx), (1, .ref qd)]) hx hb dX3_doubtfulLayers_1 rfl hl (by decide) rfl (fun ls hl => ?_)
  refine lv_iconst (v := 0) hx hb dX3_doubtfulLayers_2 (by decide) ?_
  refine lv_istore_n (lv' := [(3, .int 0), (2, .int 0), (0, .ref qx), (1, .ref qd)]) hx hb dX3_doubtfulLayers_3 rfl hl (by decide) rfl (fun ls hl => ?_)
  suffices loop : ∀ (n k : Nat) (y : Nat), k ≤ N → N < k + n → y = ct (dbt al be to fi la) k → ∀ ls, lv_has ls 4 [(3, .int (nI k)), (2, .int (nI y)), (0, .ref qx), (1, .ref qd)] → W p l e { frames := 4, cells := 0, slots := 0, locals := 88 } s m ([.ref qx, .ref qd] : List Value).toArray below meth c H0 [] 0 0 (MQ below (roQ (some (.int (nI (ct (dbt al be to fi la) N)))) H0) ([.ref qx, .ref qd] : List Value).toArray s 0 0 (fun _ => False)) (F0 m 4 ls []) from loop (N + 1) 0 0 (by omega) (by omega) (by first | rfl | simp []) _ (lv_sub hl [0, 1, 2, 3] rfl)
  intro n
  induction n with
  | zero => intro k y hk1 hk2; exact absurd hk2 (by omega)
  | succ n ih4 =>
    intro k y hk4 hn4 ey ls hl
    refine lv_iload_n hx hb dX3_doubtfulLayers_4 rfl (lv_at hl 0 rfl) ?_
    refine lv_aload_n hx hb dX3_doubtfulLayers_5 rfl (lv_at hl 2 rfl) ?_
    refine va_get (D := D) (ci := 3) (v := .ref qs) (C := RX3) (T := TX3) (N := 4) hx hb hts hinX3 hown hK.1 hP 0 rfl rfl 0 (by decide) (hts (.fieldLink RX3 10 "CairnShells" "strata" "LCairnShells$Strata;") (by decide +kernel)) (fun _ h9 => h9) rfl dX3_doubtfulLayers_6 ?_
    refine RO_go (va_runV (As := []) (rest := [.int (nI k)]) ⟨hx, hb, hml, hown, hts⟩ (c_X2_size l (D := D) (cA := cA) (H0 := H0)  (hP := hP.sub (ws' := [(qs, .inr (2, [.int (nI N), .ref qal, .ref qbe, .ref qto, .ref qod, .ref qph]))]) [1] rfl)) (cwV 0 hts gX3_doubtfulLayers_X2_size rfl rfl rfl (by decide +kernel) ⟨Nat.le_of_ble_eq_true rfl, Nat.le_of_ble_eq_true rfl⟩) (cP_V hK (va_recv hK.1 hP (ci := 2) (q0 := 1) rfl rfl)) rfl rfl hl.1 rfl (lv_room (Nat.le_of_ble_eq_true rfl)) dX3_doubtfulLayers_9 ⟨by omega, by omega⟩) ?_
    refine my_geN (x := k) (y := N) (tgt := 33) hx hb dX3_doubtfulLayers_12 (by decide) (by omega) (by omega) (fun h1 => ?_) (fun h1 => ?_)
    · obtain rfl : N = k := by omega
      subst ey
      refine lv_iload_n hx hb dX3_doubtfulLayers_33 rfl (lv_at hl 1 rfl) ?_
      exact RO_zret hx hb hr hlk hH dX3_doubtfulLayers_34 (by rfl) rfl
    · refine lv_aload_n hx hb dX3_doubtfulLayers_15 rfl (lv_at hl 2 rfl) ?_
      refine lv_aload_n hx hb dX3_doubtfulLayers_16 rfl (lv_at hl 3 rfl) ?_
      refine lv_iload_n hx hb dX3_doubtfulLayers_17 rfl (lv_at hl 0 rfl) ?_
      refine RO_go (va_runV (As := [.ref qd, .int (nI k)]) (rest := []) ⟨hx, hb, hml, hown, hts⟩ (c_X3_isDoubtful l (D := D) (cA := cA) (H0 := H0) (j := k) (hj := by omega) (hP := hP.sub (ws' := [(qx, .inr (3, [.ref qs, .ref qv, .ref qh, .ref qt])), (qs, .inr (2, [.int (nI N), .ref qal, .ref qbe, .ref qto, .ref qod, .ref qph])), (qal, .inl (cA, 14, .inl al)), (qbe, .inl (cA, 14, .inl be)), (qto, .inl (cA, 14, .inl to)), (qd, .inr (0, [.int bu, .ref qf, .ref ql])), (qf, .inl (cA, 14, .inl fi)), (ql, .inl (cA, 14, .inl la))]) [0, 1, 2, 3, 4, 5, 6, 7] rfl)) (cwV 2 hts gX3_doubtfulLayers_X3_isDoubtful rfl rfl rfl (by decide +kernel) ⟨Nat.le_of_ble_eq_true rfl, Nat.le_of_ble_eq_true rfl⟩) (cP_V hK (va_recv hK.1 hP (ci := 3) (q0 := 0) rfl rfl)) rfl rfl hl.1 rfl (lv_room (Nat.le_of_ble_eq_true rfl)) dX3_doubtfulLayers_18 ⟨by omega, by omega⟩) ?_
      refine my_ifeq_b (tgt := 27) hx hb dX3_doubtfulLayers_21 (by decide) (fun h2 => ?_) (fun h2 => ?_)
      · refine lv_iinc (v := nI (k + 1)) (x := nI k) (lv' := [(3, .int (nI (k + 1))), (2, .int (nI y)), (0, .ref qx), (1, .ref qd)]) hx hb dX3_doubtfulLayers_27 hl (k := 0) rfl (nI_1 k) (by decide) rfl (fun ls hl => ?_)
        refine lv_goto (tgt := 4) hx hb dX3_doubtfulLayers_30 (by decide) ?_
        exact ih4 (k + 1) y (by omega) (by omega) (by subst ey; first | rfl | simp [ct, h1, h2]) _ (lv_sub hl [0, 1, 2, 3] rfl)
      · refine lv_iinc (v := nI (y + 1)) (x := nI y) (lv' := [(2, .int (nI (y + 1))), (3, .int (nI k)), (0, .ref qx), (1, .ref qd)]) hx hb dX3_doubtfulLayers_24 hl (k := 1) rfl (nI_1 y) (by decide) rfl (fun ls hl => ?_)
        refine lv_iinc (v := nI (k + 1)) (x := nI k) (lv' := [(3, .int (nI (k + 1))), (2, .int (nI (y + 1))), (0, .ref qx), (1, .ref qd)]) hx hb dX3_doubtfulLayers_27 hl (k := 1) rfl (nI_1 k) (by decide) rfl (fun ls hl => ?_)
        refine lv_goto (tgt := 4) hx hb dX3_doubtfulLayers_30 (by decide) ?_
        exact ih4 (k + 1) (y + 1) (by omega) (by omega) (by subst ey; first | rfl | simp [ct, h1, h2]) _ (lv_sub hl [0, 1, 2, 3] rfl)
set_option maxHeartbeats 4000000 in
set_option maxRecDepth 100000 in
theorem c_X3_findsOf (l : Launch) {D : va_G} {cA : ClassId} {H0 : Heap} {qx qs qv qh qt qal qbe qto qod qph N : Nat} {al : Nat → Int32} {qm : Nat} {mn : Nat → Int32}  (j : Nat) (kd : Nat) (hj : j < 14) (hkd : kd < 4) (hP : va_P D vwCl [(qx, .inr (3, [.ref qs, .ref qv, .ref qh, .ref qt])), (qs, .inr (2, [.int (nI N), .ref qal, .ref qbe, .ref qto, .ref qod, .ref qph])), (qal, .inl (cA, 14, .inl al)), (qv, .inr (1, [.ref qm])), (qm, .inl (cA, 56, .inl mn))] H0) : RO l yX3_findsOf wsX3_findsOf 2 45 [.ref qx, .int (nI j), .int (nI kd)] D cA H0 (some (.int (sS mn (al j) kd 14))) := by
  refine RO_of (cc := cX3_findsOf) (maxL := 3) (ret := (some .int)) (by decide) rfl (Nat.le_of_ble_eq_true rfl) ?_
  intro p e s m below meth c ls hx hb hml hr hown hts hlk hH hK hl
  have hown : s.vm.findClass RX3 = some m.cls := hown
  have hl : lv_has ls 3 [(0, .ref qx), (1, .int (nI j)), (2, .int (nI kd))] := hl
  have hinX1 : ∀ w ∈ wsX10, w ∈ wsX3_findsOf := by decide +kernel
  have hinX2 : ∀ w ∈ wsX20, w ∈ wsX3_findsOf := by decide +kernel
  have hinX3 : ∀ w ∈ wsX30, w ∈ wsX3_findsOf := by decide +kernel
  refine lv_aload_n hx hb dX3_findsOf_0 rfl (lv_at hl 0 rfl) ?_
  refine va_get (D := D) (ci := 3) (v := .ref qv) (C := RX3) (T := TX3) (N := 4) hx hb hts hinX3 hown hK.1 hP 0 rfl rfl 1 (by decide) (hts (.fieldLink RX3 19 "CairnShells" "sieve" "LCairnShells$Sieve;") (by decide +kernel)) (fun _ h9 => h9) rfl dX3_findsOf_1 ?_
  refine lv_aload_n hx hb dX3_findsOf_4 rfl (lv_at hl 0 rfl) ?_
  refine va_get (D := D) (ci := 3) (v := .ref qs) (C := RX3) (T := TX3) (N := 4) hx hb hts hinX3 hown hK.1 hP 0 rfl rfl 0 (by decide) (hts (.fieldLink RX3 10 "CairnShells" "strata" "LCairnShells$Strata;") (by decide +kernel)) (fun _ h9 => h9) rfl dX3_findsOf_5 ?_
  refine lv_iload_n hx hb dX3_findsOf_8 rfl (lv_at hl 1 rfl) ?_
  refine RO_go (va_runV (As := [.int (nI j)]) (rest := [.ref qv]) ⟨hx, hb, hml, hown, hts⟩ (c_X2_alike l (D := D) (cA := cA) (H0 := H0) (j := j) (hj := by omega) (hP := hP.sub (ws' := [(qs, .inr (2, [.int (nI N), .ref qal, .ref qbe, .ref qto, .ref qod, .ref qph])), (qal, .inl (cA, 14, .inl al))]) [1, 2] rfl)) (cwV 1 hts gX3_findsOf_X2_alike rfl rfl rfl (by decide +kernel) ⟨Nat.le_of_ble_eq_true rfl, Nat.le_of_ble_eq_true rfl⟩) (cP_V hK (va_recv hK.1 hP (ci := 2) (q0 := 1) rfl rfl)) rfl rfl hl.1 rfl (lv_room (Nat.le_of_ble_eq_true rfl)) dX3_findsOf_9 ⟨by omega, by omega⟩) ?_
  refine lv_iload_n hx hb dX3_findsOf_12 rfl (lv_at hl 2 rfl) ?_
  refine RO_go (va_runV (As := [.int (al j), .int (nI kd)]) (rest := []) ⟨hx, hb, hml, hown, hts⟩ (c_X1_sum l (D := D) (cA := cA) (H0 := H0) (x := al j) (kd := kd) (hkd := by omega) (hP := hP.sub (ws' := [(qv, .inr (1, [.ref qm])), (qm, .inl (cA, 56, .inl mn))]) [3, 4] rfl)) (cwV 2 hts gX3_findsOf_X1_sum rfl rfl rfl (by decide +kernel) ⟨Nat.le_of_ble_eq_true rfl, Nat.le_of_ble_eq_true rfl⟩) (cP_V hK (va_recv hK.1 hP (ci := 1) (q0 := 3) rfl rfl)) rfl rfl hl.1 rfl (lv_room (Nat.le_of_ble_eq_true rfl)) dX3_findsOf_13 ⟨by omega, by omega⟩) ?_
  exact RO_zret hx hb hr hlk hH dX3_findsOf_16 (by rfl) rfl
set_option maxHeartbeats 4000000 in
set_option maxRecDepth 100000 in
theorem c_X3_season (l : Launch) {D : va_G} {cA : ClassId} {H0 : Heap} {qx qs qv qh qt qal qbe qto qod qph N : Nat} {al : Nat → Int32} {qm : Nat} {mn : Nat → Int32}  (j : Nat) (hj : j < 14) (hP : va_P D vwCl [(qx, .inr (3, [.ref qs, .ref qv, .ref qh, .ref qt])), (qs, .inr (2, [.int (nI N), .ref qal, .ref qbe, .ref qto, .ref qod, .ref qph])), (qal, .inl (cA, 14, .inl al)), (qv, .inr (1, [.ref qm])), (qm, .inl (cA, 56, .inl mn))] H0) : RO l yX3_season wsX3_season 3 67 [.ref qx, .int (nI j)] D cA H0 (some (.int (ssn mn (al j)))) := by
  refine RO_of (cc := cX3_season) (maxL := 10) (ret := (some .int)) (by decide) rfl (Nat.le_of_ble_eq_true rfl) ?_
  intro p e s m below meth c ls hx hb hml hr hown hts hlk hH hK hl
  have hown : s.vm.findClass RX3 = some m.cls := hown
  have hl : lv_has ls 10 [(0, .ref qx), (1, .int (nI j))] := hl
  have hinX1 : ∀ w ∈ wsX10, w ∈ wsX3_season := by decide +kernel
  have hinX2 : ∀ w ∈ wsX20, w ∈ wsX3_season := by decide +kernel
  have hinX3 : ∀ w ∈ wsX30, w ∈ wsX3_season := by decide +kernel
  refine lv_aload_n hx hb dX3_season_0 rfl (lv_at hl 0 rfl) ?_
  refine lv_iload_n hx hb dX3_season_1 rfl (lv_at hl 1 rfl) ?_
  refine lv_iconst (v := 0) hx hb dX3_season_2 (by decide) ?_
  refine RO_go (va_runV (As := [.int (nI j), .int 0]) (rest := []) ⟨hx, hb, hml, hown, hts⟩ (c_X3_findsOf l (D := D) (cA := cA) (H0 := H0) (j := j) (kd := 0) (hj := by omega) (hkd := by omega) (hP := hP.sub (ws' := [(qx, .inr (3, [.ref qs, .ref qv, .ref qh, .ref qt])), (qs, .inr (2, [.int (nI N), .ref qal, .ref qbe, .ref qto, .ref qod, .ref qph])), (qal, .inl (cA, 14, .inl al)), (qv, .inr (1, [.ref qm])), (qm, .inl (cA, 56, .inl mn))]) [0, 1, 2, 3, 4] rfl)) (cwV 2 hts gX3_season_X3_findsOf rfl rfl rfl (by decide +kernel) ⟨Nat.le_of_ble_eq_true rfl, Nat.le_of_ble_eq_true rfl⟩) (cP_V hK (va_recv hK.1 hP (ci := 3) (q0 := 0) rfl rfl)) rfl rfl hl.1 rfl (lv_room (Nat.le_of_ble_eq_true rfl)) dX3_season_3 ⟨by omega, by omega⟩) ?_
  refine lv_istore_n (lv' := [(2, .int (sS mn (al j) 0 14)), (0, .ref qx), (1, .int (nI j))]) hx hb dX3_season_6 rfl hl (by decide) rfl (fun ls hl => ?_)
  refine lv_aload_n hx hb dX3_season_7 rfl (lv_at hl 1 rfl) ?_
  refine lv_iload_n hx hb dX3_season_8 rfl (lv_at hl 2 rfl) ?_
  refine lv_iconst (v := 1) hx hb dX3_season_9 (by decide) ?_
  refine RO_go (va_runV (As := [.int (nI j), .int 1]) (rest := []) ⟨hx, hb, hml, hown, hts⟩ (c_X3_findsOf l (D := D) (cA := cA) (H0 := H0) (j := j) (kd := 1) (hj := by omega) (hkd := by omega) (hP := hP.sub (ws' := [(qx, .inr (3, [.ref qs, .ref qv, .ref qh, .ref qt])), (qs, .inr (2, [.int (nI N), .ref qal, .ref qbe, .ref qto, .ref qod, .ref qph])), (qal, .inl (cA, 14, .inl al)), (qv, .inr (1, [.ref qm])), (qm, .inl (cA, 56, .inl mn))]) [0, 1, 2, 3, 4] rfl)) (cwV 2 hts gX3_season_X3_findsOf rfl rfl rfl (by decide +kernel) ⟨Nat.le_of_ble_eq_true rfl, Nat.le_of_ble_eq_true rfl⟩) (cP_V hK (va_recv hK.1 hP (ci := 3) (q0 := 0) rfl rfl)) rfl rfl hl.1 rfl (lv_room (Nat.le_of_ble_eq_true rfl)) dX3_season_10 ⟨by omega, by omega⟩) ?_
  refine lv_istore_n (lv' := [(3, .int (sS mn (al j) 1 14)), (2, .int (sS mn (al j) 0 14)), (0, .ref qx), (1, .int (nI j))]) hx hb dX3_season_13 rfl hl (by decide) rfl (fun ls hl => ?_)
  refine lv_aload_n hx hb dX3_season_14 rfl (lv_at hl 2 rfl) ?_
  refine lv_iload_n hx hb dX3_season_15 rfl (lv_at hl 3 rfl) ?_
  refine lv_iconst (v := 2) hx hb dX3_season_16 (by decide) ?_
  refine RO_go (va_runV (As := [.int (nI j), .int 2]) (rest := []) ⟨hx, hb, hml, hown, hts⟩ (c_X3_findsOf l (D := D) (cA := cA) (H0 := H0) (j := j) (kd := 2) (hj := by omega) (hkd := by omega) (hP := hP.sub (ws' := [(qx, .inr (3, [.ref qs, .ref qv, .ref qh, .ref qt])), (qs, .inr (2, [.int (nI N), .ref qal, .ref qbe, .ref qto, .ref qod, .ref qph])), (qal, .inl (cA, 14, .inl al)), (qv, .inr (1, [.ref qm])), (qm, .inl (cA, 56, .inl mn))]) [0, 1, 2, 3, 4] rfl)) (cwV 2 hts gX3_season_X3_findsOf rfl rfl rfl (by decide +kernel) ⟨Nat.le_of_ble_eq_true rfl, Nat.le_of_ble_eq_true rfl⟩) (cP_V hK (va_recv hK.1 hP (ci := 3) (q0 := 0) rfl rfl)) rfl rfl hl.1 rfl (lv_room (Nat.le_of_ble_eq_true rfl)) dX3_season_17 ⟨by omega, by omega⟩) ?_
  refine lv_istore (lv' := [(4, .int (sS mn (al j) 2 14)), (3, .int (sS mn (al j) 1 14)), (2, .int (sS mn (al j) 0 14)), (0, .ref qx), (1, .int (nI j))]) hx hb dX3_season_20 hl (by decide) rfl (fun ls hl => ?_)
  refine lv_aload_n hx hb dX3_season_22 rfl (lv_at hl 3 rfl) ?_
  refine lv_iload_n hx hb dX3_season_23 rfl (lv_at hl 4 rfl) ?_
  refine lv_iconst (v := 3) hx hb dX3_season_24 (by decide) ?_
  refine RO_go (va_runV (As := [.int (nI j), .int 3]) (rest := []) ⟨hx, hb, hml, hown, hts⟩ (c_X3_findsOf l (D := D) (cA := cA) (H0 := H0) (j := j) (kd := 3) (hj := by omega) (hkd := by omega) (hP := hP.sub (ws' := [(qx, .inr (3, [.ref qs, .ref qv, .ref qh, .ref qt])), (qs, .inr (2, [.int (nI N), .ref qal, .ref qbe, .ref qto, .ref qod, .ref qph])), (qal, .inl (cA, 14, .inl al)), (qv, .inr (1, [.ref qm])), (qm, .inl (cA, 56, .inl mn))]) [0, 1, 2, 3, 4] rfl)) (cwV 2 hts gX3_season_X3_findsOf rfl rfl rfl (by decide +kernel) ⟨Nat.le_of_ble_eq_true rfl, Nat.le_of_ble_eq_true rfl⟩) (cP_V hK (va_recv hK.1 hP (ci := 3) (q0 := 0) rfl rfl)) rfl rfl hl.1 rfl (lv_room (Nat.le_of_ble_eq_true rfl)) dX3_season_25 ⟨by omega, by omega⟩) ?_
  refine lv_istore (lv' := [(5, .int (sS mn (al j) 3 14)), (4, .int (sS mn (al j) 2 14)), (3, .int (sS mn (al j) 1 14)), (2, .int (sS mn (al j) 0 14)), (0, .ref qx), (1, .int (nI j))]) hx hb dX3_season_28 hl (by decide) rfl (fun ls hl => ?_)
  refine lv_iconst (v := (-1)) hx hb dX3_season_30 (by decide) ?_
  refine lv_istore (lv' := [(6, .int (-1)), (5, .int (sS mn (al j) 3 14)), (4, .int (sS mn (al j) 2 14)), (3, .int (sS mn (al j) 1 14)), (2, .int (sS mn (al j) 0 14)), (0, .ref qx), (1, .int (nI j))]) hx hb dX3_season_31 hl (by decide) rfl (fun ls hl => ?_)
  refine lv_iconst (v := 0) hx hb dX3_season_33 (by decide) ?_
  refine lv_istore (lv' := [(7, .int 0), (6, .int (-1)), (5, .int (sS mn (al j) 3 14)), (4, .int (sS mn (al j) 2 14)), (3, .int (sS mn (al j) 1 14)), (2, .int (sS mn (al j) 0 14)), (0, .ref qx), (1, .int (nI j))]) hx hb dX3_season_34 hl (by decide) rfl (fun ls hl => ?_)
  refine lv_iconst (v := 0) hx hb dX3_season_36 (by decide) ?_
  refine lv_istore (lv' := [(8, .int 0), (7, .int 0), (6, .int (-1)), (5, .int (sS mn (al j) 3 14)), (4, .int (sS mn (al j) 2 14)), (3, .int (sS mn (al j) 1 14)), (2, .int (sS mn (al j) 0 14)), (0, .ref qx), (1, .int (nI j))]) hx hb dX3_season_37 hl (by decide) rfl (fun ls hl => ?_)
  suffices loop : ∀ (n k : Nat) (y7 : Int32) (y6 : Int32), k ≤ 4 → 4 < k + n → y7 = seM (sS mn (al j) 0 14) (sS mn (al j) 1 14) (sS mn (al j) 2 14) (sS mn (al j) 3 14) k → y6 = seB (sS mn (al j) 0 14) (sS mn (al j) 1 14) (sS mn (al j) 2 14) (sS mn (al j) 3 14) k → ∀ ls, lv_has ls 10 [(8, .int (nI k)), (7, .int y7), (6, .int y6), (5, .int (sS mn (al j) 3 14)), (4, .int (sS mn (al j) 2 14)), (3, .int (sS mn (al j) 1 14)), (2, .int (sS mn (al j) 0 14)), (0, .ref qx), (1, .int (nI j))] → W p l e { frames := 3, cells := 0, slots := 0, locals := 67 } s m ([.ref qx, .int (nI j)] : List Value).toArray below meth c H0 [] 0 0 (MQ below (roQ (some (.int (ssn mn (al j)))) H0) ([.ref qx, .int (nI j)] : List Value).toArray s 0 0 (fun _ => False)) (F0 m 39 ls []) from loop (4 + 1) 0 0 (-1) (by omega) (by omega) (by first | rfl | simp [seB, seM]) (by first | rfl | simp [seB, seM]) _ (lv_sub hl [0, 1, 2, 3, 4, 5, 6, 7, 8] rfl)
  intro n
  induction n with
  | zero => intro k y7 y6 hk1 hk2; exact absurd hk2 (by omega)
  | succ n ih39 =>
    intro k y7 y6 hk39 hn39 ey7 ey6 ls hl
    refine lv_iload hx hb dX3_season_39 (lv_at hl 0 rfl) ?_
    refine lv_iconst (v := 4) hx hb dX3_season_41 (by decide) ?_
    refine my_geN (x := k) (y := 4) (tgt := 79) hx hb dX3_season_42 (by decide) (by omega) (by omega) (fun h1 => ?_) (fun h1 => ?_)
    · obtain rfl : k = 4 := by omega
      subst ey6
      subst ey7
      refine lv_iload hx hb dX3_season_79 (lv_at hl 2 rfl) ?_
      exact RO_zret hx hb hr hlk hH dX3_season_81 (by rfl) (by first | rfl | simp [h1])
    · refine lv_iload hx hb dX3_season_45 (lv_at hl 0 rfl) ?_
      refine lv_iload_n hx hb dX3_season_47 rfl (lv_at hl 6 rfl) ?_
      refine lv_iload_n hx hb dX3_season_48 rfl (lv_at hl 5 rfl) ?_
      refine lv_iload hx hb dX3_season_49 (lv_at hl 4 rfl) ?_
      refine lv_iload hx hb dX3_season_51 (lv_at hl 3 rfl) ?_
      refine RO_go (va_runS (As := [.int (nI k), .int (sS mn (al j) 0 14), .int (sS mn (al j) 1 14), .int (sS mn (al j) 2 14), .int (sS mn (al j) 3 14)]) (rest := []) ⟨hx, hb, hml, hown, hts⟩ (c_X3_weight l (D := D) (cA := cA) (H0 := H0) (w := k) (x1 := sS mn (al j) 0 14) (x2 := sS mn (al j) 1 14) (x3 := sS mn (al j) 2 14) (x4 := sS mn (al j) 3 14) (hw := by omega)) (va_cwS 5 hts gX3_season_X3_weight rfl rfl rfl (by decide +kernel) ⟨Nat.le_of_ble_eq_true rfl, Nat.le_of_ble_eq_true rfl⟩) (cP_S hK) rfl rfl hl.1 rfl (lv_room (Nat.le_of_ble_eq_true rfl)) dX3_season_53 ⟨by omega, by omega⟩) ?_
      refine lv_istore (lv' := [(9, .int (wgt (sS mn (al j) 0 14) (sS mn (al j) 1 14) (sS mn (al j) 2 14) (sS mn (al j) 3 14) k)), (8, .int (nI k)), (7, .int y7), (6, .int y6), (5, .int (sS mn (al j) 3 14)), (4, .int (sS mn (al j) 2 14)), (3, .int (sS mn (al j) 1 14)), (2, .int (sS mn (al j) 0 14)), (0, .ref qx), (1, .int (nI j))]) hx hb dX3_season_56 hl (by decide) rfl (fun ls hl => ?_)
      refine lv_iload hx hb dX3_season_58 (lv_at hl 0 rfl) ?_
      refine lv_iload hx hb dX3_season_60 (lv_at hl 2 rfl) ?_
      refine lv_icmp_le (tgt := 73) hx hb dX3_season_62 (by decide) (fun h2 => ?_) (fun h2 => ?_)
      · refine lv_iinc (v := nI (k + 1)) (x := nI k) (lv' := [(8, .int (nI (k + 1))), (9, .int (wgt (sS mn (al j) 0 14) (sS mn (al j) 1 14) (sS mn (al j) 2 14) (sS mn (al j) 3 14) k)), (7, .int y7), (6, .int y6), (5, .int (sS mn (al j) 3 14)), (4, .int (sS mn (al j) 2 14)), (3, .int (sS mn (al j) 1 14)), (2, .int (sS mn (al j) 0 14)), (0, .ref qx), (1, .int (nI j))]) hx hb dX3_season_73 hl (k := 1) rfl (nI_1 k) (by decide) rfl (fun ls hl => ?_)
        refine lv_goto (tgt := 39) hx hb dX3_season_76 (by decide) ?_
        exact ih39 (k + 1) y7 y6 (by omega) (by omega) (by subst ey6; subst ey7; simp only [seB, seM]; first | rw [if_pos (fa_of_nle h2)] | rw [if_neg (fun h9 => (fa_of_lt h9).2.1 h2)]) (by subst ey6; subst ey7; simp only [seB, seM]; first | rw [if_pos (fa_of_nle h2)] | rw [if_neg (fun h9 => (fa_of_lt h9).2.1 h2)]) _ (lv_sub hl [0, 2, 3, 4, 5, 6, 7, 8, 9] rfl)
      · refine lv_iload hx hb dX3_season_65 (lv_at hl 0 rfl) ?_
        refine lv_istore (lv' := [(7, .int (wgt (sS mn (al j) 0 14) (sS mn (al j) 1 14) (sS mn (al j) 2 14) (sS mn (al j) 3 14) k)), (9, .int (wgt (sS mn (al j) 0 14) (sS mn (al j) 1 14) (sS mn (al j) 2 14) (sS mn (al j) 3 14) k)), (8, .int (nI k)), (6, .int y6), (5, .int (sS mn (al j) 3 14)), (4, .int (sS mn (al j) 2 14)), (3, .int (sS mn (al j) 1 14)), (2, .int (sS mn (al j) 0 14)), (0, .ref qx), (1, .int (nI j))]) hx hb dX3_season_67 hl (by decide) rfl (fun ls hl => ?_)
        refine lv_iload hx hb dX3_season_69 (lv_at hl 2 rfl) ?_
        refine lv_istore (lv' := [(6, .int (nI k)), (7, .int (wgt (sS mn (al j) 0 14) (sS mn (al j) 1 14) (sS mn (al j) 2 14) (sS mn (al j) 3 14) k)), (9, .int (wgt (sS mn (al j) 0 14) (sS mn (al j) 1 14) (sS mn (al j) 2 14) (sS mn (al j) 3 14) k)), (8, .int (nI k)), (5, .int (sS mn (al j) 3 14)), (4, .int (sS mn (al j) 2 14)), (3, .int (sS mn (al j) 1 14)), (2, .int (sS mn (al j) 0 14)), (0, .ref qx), (1, .int (nI j))]) hx hb dX3_season_71 hl (by decide) rfl (fun ls hl => ?_)
        refine lv_iinc (v := nI (k + 1)) (x := nI k) (lv' := [(8, .int (nI (k + 1))), (6, .int (nI k)), (7, .int (wgt (sS mn (al j) 0 14) (sS mn (al j) 1 14) (sS mn (al j) 2 14) (sS mn (al j) 3 14) k)), (9, .int (wgt (sS mn (al j) 0 14) (sS mn (al j) 1 14) (sS mn (al j) 2 14) (sS mn (al j) 3 14) k)), (5, .int (sS mn (al j) 3 14)), (4, .int (sS mn (al j) 2 14)), (3, .int (sS mn (al j) 1 14)), (2, .int (sS mn (al j) 0 14)), (0, .ref qx), (1, .int (nI j))]) hx hb dX3_season_73 hl (k := 3) rfl (nI_1 k) (by decide) rfl (fun ls hl => ?_)
        refine lv_goto (tgt := 39) hx hb dX3_season_76 (by decide) ?_
        exact ih39 (k + 1) (wgt (sS mn (al j) 0 14) (sS mn (al j) 1 14) (sS mn (al j) 2 14) (sS mn (al j) 3 14) k) (nI k) (by omega) (by omega) (by subst ey6; subst ey7; simp only [seB, seM]; first | rw [if_pos (fa_of_nle h2)] | rw [if_neg (fun h9 => (fa_of_lt h9).2.1 h2)]) (by subst ey6; subst ey7; simp only [seB, seM]; first | rw [if_pos (fa_of_nle h2)] | rw [if_neg (fun h9 => (fa_of_lt h9).2.1 h2)]) _ (lv_sub hl [0, 2, 1, 4, 5, 6, 7, 8, 9] rfl)
set_option maxHeartbeats 4000000 in
set_option maxRecDepth 100000 in
theorem c_X3_toldOf (l : Launch) {D : va_G} {cA : ClassId} {H0 : Heap} {qx qs qv qh qt qal qbe qto qod qph N : Nat} {al be to ph : Nat → Int32} {qm : Nat} {mn : Nat → Int32} {qf ql : Nat} {bu : Int32} {fi la : Nat → Int32} (j : Nat) (w : Nat) (hj : j < N) (hw : w < 9) (hN : N ≤ 14) (hsa : ∀ j, j < N → small (al j)) (hsb : ∀ j, j < N → small (be j)) (hst : ∀ j, j < N → small (to j)) (hP : va_P D vwCl [(qx, .inr (3, [.ref qs, .ref qv, .ref qh, .ref qt])), (qs, .inr (2, [.int (nI N), .ref qal, .ref qbe, .ref qto, .ref qod, .ref qph])), (qal, .inl (cA, 14, .inl al)), (qbe, .inl (cA, 14, .inl be)), (qto, .inl (cA, 14, .inl to)), (qph, .inl (cA, 14, .inl ph)), (qv, .inr (1, [.ref qm])), (qm, .inl (cA, 56, .inl mn)), (qh, .inr (0, [.int bu, .ref qf, .ref ql])), (qf, .inl (cA, 14, .inl fi)), (ql, .inl (cA, 14, .inl la))] H0) : RO l yX3_toldOf wsX3_toldOf 4 96 [.ref qx, .int (nI j), .int (nI w)] D cA H0 (some (.int (tolV N al be to ph mn bu fi la j w))) := by
  refine RO_of (cc := cX3_toldOf) (maxL := 3) (ret := (some .int)) (by decide) rfl (Nat.le_of_ble_eq_true rfl) ?_
  intro p e s m below meth c ls hx hb hml hr hown hts hlk hH hK hl
  have hown : s.vm.findClass RX3 = some m.cls := hown
  have hl : lv_has ls 3 [(0, .ref qx), (1, .int (nI j)), (2, .int (nI w))] := hl
  have hinX0 : ∀ w ∈ wsX00, w ∈ wsX3_toldOf := by decide +kernel
  have hinX1 : ∀ w ∈ wsX10, w ∈ wsX3_toldOf := by decide +kernel
  have hinX2 : ∀ w ∈ wsX20, w ∈ wsX3_toldOf := by decide +kernel
  have hinX3 : ∀ w ∈ wsX30, w ∈ wsX3_toldOf := by decide +kernel
  refine lv_iload_n hx hb dX3_toldOf_0 rfl (lv_at hl 2 rfl) ?_
  rcases (show w = 0 ∨ w = 1 ∨ w = 2 ∨ w = 3 ∨ w = 4 ∨ w = 5 ∨ w = 6 ∨ w = 7 ∨ w = 8 by omega) with rfl | rfl | rfl | rfl | rfl | rfl | rfl | rfl | rfl
  · have hl : lv_has ls 3 [(0, .ref qx), (1, .int (nI j)), (2, .int (nI 0))] := hl
    refine lv_tableIn (tgt := 48) hx hb dX3_toldOf_1 (by decide) (by decide) rfl (by decide) ?_
    refine lv_aload_n hx hb dX3_toldOf_48 rfl (lv_at hl 0 rfl) ?_
    refine lv_aload_n hx hb dX3_toldOf_49 rfl (lv_at hl 0 rfl) ?_
    refine va_get (D := D) (ci := 3) (v := .ref qh) (C := RX3) (T := TX3) (N := 4) hx hb hts hinX3 hown hK.1 hP 0 rfl rfl 2 (by decide) (hts (.fieldLink RX3 26 "CairnShells" "hearths" "LCairnShells$Hearths;") (by decide +kernel)) (fun _ h9 => h9) rfl dX3_toldOf_50 ?_
    refine lv_iload_n hx hb dX3_toldOf_53 rfl (lv_at hl 1 rfl) ?_
    refine RO_go (va_runV (As := [.ref qh, .int (nI j)]) (rest := []) ⟨hx, hb, hml, hown, hts⟩ (c_X3_firstYear l (D := D) (cA := cA) (H0 := H0) (j := j) (hj := by omega) (hP := hP.sub (ws' := [(qx, .inr (3, [.ref qs, .ref qv, .ref qh, .ref qt])), (qs, .inr (2, [.int (nI N), .ref qal, .ref qbe, .ref qto, .ref qod, .ref qph])), (qal, .inl (cA, 14, .inl al)), (qbe, .inl (cA, 14, .inl be)), (qh, .inr (0, [.int bu, .ref qf, .ref ql])), (qf, .inl (cA, 14, .inl fi))]) [0, 1, 2, 3, 8, 9] rfl)) (cwV 2 hts gX3_toldOf_X3_firstYear rfl rfl rfl (by decide +kernel) ⟨Nat.le_of_ble_eq_true rfl, Nat.le_of_ble_eq_true rfl⟩) (cP_V hK (va_recv hK.1 hP (ci := 3) (q0 := 0) rfl rfl)) rfl rfl hl.1 rfl (lv_room (Nat.le_of_ble_eq_true rfl)) dX3_toldOf_54 ⟨by omega, by omega⟩) ?_
    exact RO_zret hx hb hr hlk hH dX3_toldOf_57 (by rfl) (by first | rfl | simp [tolV, bI])
  · have hl : lv_has ls 3 [(0, .ref qx), (1, .int (nI j)), (2, .int (nI 1))] := hl
    refine lv_tableIn (tgt := 58) hx hb dX3_toldOf_1 (by decide) (by decide) rfl (by decide) ?_
    refine lv_aload_n hx hb dX3_toldOf_58 rfl (lv_at hl 0 rfl) ?_
    refine lv_aload_n hx hb dX3_toldOf_59 rfl (lv_at hl 0 rfl) ?_
    refine va_get (D := D) (ci := 3) (v := .ref qh) (C := RX3) (T := TX3) (N := 4) hx hb hts hinX3 hown hK.1 hP 0 rfl rfl 2 (by decide) (hts (.fieldLink RX3 26 "CairnShells" "hearths" "LCairnShells$Hearths;") (by decide +kernel)) (fun _ h9 => h9) rfl dX3_toldOf_60 ?_
    refine lv_iload_n hx hb dX3_toldOf_63 rfl (lv_at hl 1 rfl) ?_
    refine RO_go (va_runV (As := [.ref qh, .int (nI j)]) (rest := []) ⟨hx, hb, hml, hown, hts⟩ (c_X3_lastYear l (D := D) (cA := cA) (H0 := H0) (j := j) (hj := by omega) (hP := hP.sub (ws' := [(qx, .inr (3, [.ref qs, .ref qv, .ref qh, .ref qt])), (qs, .inr (2, [.int (nI N), .ref qal, .ref qbe, .ref qto, .ref qod, .ref qph])), (qal, .inl (cA, 14, .inl al)), (qto, .inl (cA, 14, .inl to)), (qh, .inr (0, [.int bu, .ref qf, .ref ql])), (ql, .inl (cA, 14, .inl la))]) [0, 1, 2, 4, 8, 10] rfl)) (cwV 2 hts gX3_toldOf_X3_lastYear rfl rfl rfl (by decide +kernel) ⟨Nat.le_of_ble_eq_true rfl, Nat.le_of_ble_eq_true rfl⟩) (cP_V hK (va_recv hK.1 hP (ci := 3) (q0 := 0) rfl rfl)) rfl rfl hl.1 rfl (lv_room (Nat.le_of_ble_eq_true rfl)) dX3_toldOf_64 ⟨by omega, by omega⟩) ?_
    exact RO_zret hx hb hr hlk hH dX3_toldOf_67 (by rfl) (by first | rfl | simp [tolV, bI])
  · have hl : lv_has ls 3 [(0, .ref qx), (1, .int (nI j)), (2, .int (nI 2))] := hl
    refine lv_tableIn (tgt := 68) hx hb dX3_toldOf_1 (by decide) (by decide) rfl (by decide) ?_
    refine lv_aload_n hx hb dX3_toldOf_68 rfl (lv_at hl 0 rfl) ?_
    refine lv_aload_n hx hb dX3_toldOf_69 rfl (lv_at hl 0 rfl) ?_
    refine va_get (D := D) (ci := 3) (v := .ref qh) (C := RX3) (T := TX3) (N := 4) hx hb hts hinX3 hown hK.1 hP 0 rfl rfl 2 (by decide) (hts (.fieldLink RX3 26 "CairnShells" "hearths" "LCairnShells$Hearths;") (by decide +kernel)) (fun _ h9 => h9) rfl dX3_toldOf_70 ?_
    refine lv_iload_n hx hb dX3_toldOf_73 rfl (lv_at hl 1 rfl) ?_
    refine RO_go (va_runV (As := [.ref qh, .int (nI j)]) (rest := []) ⟨hx, hb, hml, hown, hts⟩ (c_X3_isDoubtful l (D := D) (cA := cA) (H0 := H0) (j := j) (hj := by omega) (hP := hP.sub (ws' := [(qx, .inr (3, [.ref qs, .ref qv, .ref qh, .ref qt])), (qs, .inr (2, [.int (nI N), .ref qal, .ref qbe, .ref qto, .ref qod, .ref qph])), (qal, .inl (cA, 14, .inl al)), (qbe, .inl (cA, 14, .inl be)), (qto, .inl (cA, 14, .inl to)), (qh, .inr (0, [.int bu, .ref qf, .ref ql])), (qf, .inl (cA, 14, .inl fi)), (ql, .inl (cA, 14, .inl la))]) [0, 1, 2, 3, 4, 8, 9, 10] rfl)) (cwV 2 hts gX3_toldOf_X3_isDoubtful rfl rfl rfl (by decide +kernel) ⟨Nat.le_of_ble_eq_true rfl, Nat.le_of_ble_eq_true rfl⟩) (cP_V hK (va_recv hK.1 hP (ci := 3) (q0 := 0) rfl rfl)) rfl rfl hl.1 rfl (lv_room (Nat.le_of_ble_eq_true rfl)) dX3_toldOf_74 ⟨by omega, by omega⟩) ?_
    refine my_ifeq_b (tgt := 84) hx hb dX3_toldOf_77 (by decide) (fun h1 => ?_) (fun h1 => ?_)
    · refine lv_iconst (v := 0) hx hb dX3_toldOf_84 (by decide) ?_
      exact RO_zret hx hb hr hlk hH dX3_toldOf_85 (by rfl) (by first | rfl | simp [tolV, bI, h1])
    · refine lv_iconst (v := 1) hx hb dX3_toldOf_80 (by decide) ?_
      refine lv_goto (tgt := 85) hx hb dX3_toldOf_81 (by decide) ?_
      exact RO_zret hx hb hr hlk hH dX3_toldOf_85 (by rfl) (by first | rfl | simp [tolV, bI, h1])
  · have hl : lv_has ls 3 [(0, .ref qx), (1, .int (nI j)), (2, .int (nI 3))] := hl
    refine lv_tableIn (tgt := 86) hx hb dX3_toldOf_1 (by decide) (by decide) rfl (by decide) ?_
    refine lv_aload_n hx hb dX3_toldOf_86 rfl (lv_at hl 0 rfl) ?_
    refine va_get (D := D) (ci := 3) (v := .ref qs) (C := RX3) (T := TX3) (N := 4) hx hb hts hinX3 hown hK.1 hP 0 rfl rfl 0 (by decide) (hts (.fieldLink RX3 10 "CairnShells" "strata" "LCairnShells$Strata;") (by decide +kernel)) (fun _ h9 => h9) rfl dX3_toldOf_87 ?_
    refine lv_iload_n hx hb dX3_toldOf_90 rfl (lv_at hl 1 rfl) ?_
    refine RO_go (va_runV (As := [.int (nI j)]) (rest := []) ⟨hx, hb, hml, hown, hts⟩ (c_X2_phase l (D := D) (cA := cA) (H0 := H0) (j := j) (hj := by omega) (hP := hP.sub (ws' := [(qs, .inr (2, [.int (nI N), .ref qal, .ref qbe, .ref qto, .ref qod, .ref qph])), (qph, .inl (cA, 14, .inl ph))]) [1, 5] rfl)) (cwV 1 hts gX3_toldOf_X2_phase rfl rfl rfl (by decide +kernel) ⟨Nat.le_of_ble_eq_true rfl, Nat.le_of_ble_eq_true rfl⟩) (cP_V hK (va_recv hK.1 hP (ci := 2) (q0 := 1) rfl rfl)) rfl rfl hl.1 rfl (lv_room (Nat.le_of_ble_eq_true rfl)) dX3_toldOf_91 ⟨by omega, by omega⟩) ?_
    exact RO_zret hx hb hr hlk hH dX3_toldOf_94 (by rfl) (by first | rfl | simp [tolV, bI])
  · have hl : lv_has ls 3 [(0, .ref qx), (1, .int (nI j)), (2, .int (nI 4))] := hl
    refine lv_tableIn (tgt := 95) hx hb dX3_toldOf_1 (by decide) (by decide) rfl (by decide) ?_
    refine lv_aload_n hx hb dX3_toldOf_95 rfl (lv_at hl 0 rfl) ?_
    refine va_get (D := D) (ci := 3) (v := .ref qs) (C := RX3) (T := TX3) (N := 4) hx hb hts hinX3 hown hK.1 hP 0 rfl rfl 0 (by decide) (hts (.fieldLink RX3 10 "CairnShells" "strata" "LCairnShells$Strata;") (by decide +kernel)) (fun _ h9 => h9) rfl dX3_toldOf_96 ?_
    refine lv_iload_n hx hb dX3_toldOf_99 rfl (lv_at hl 1 rfl) ?_
    refine RO_go (va_runV (As := [.int (nI j)]) (rest := []) ⟨hx, hb, hml, hown, hts⟩ (c_X2_below l (D := D) (cA := cA) (H0 := H0) (j := j) (hj := by omega) (hP := hP.sub (ws' := [(qs, .inr (2, [.int (nI N), .ref qal, .ref qbe, .ref qto, .ref qod, .ref qph])), (qbe, .inl (cA, 14, .inl be))]) [1, 3] rfl)) (cwV 1 hts gX3_toldOf_X2_below rfl rfl rfl (by decide +kernel) ⟨Nat.le_of_ble_eq_true rfl, Nat.le_of_ble_eq_true rfl⟩) (cP_V hK (va_recv hK.1 hP (ci := 2) (q0 := 1) rfl rfl)) rfl rfl hl.1 rfl (lv_room (Nat.le_of_ble_eq_true rfl)) dX3_toldOf_100 ⟨by omega, by omega⟩) ?_
    refine RO_go (va_runS (As := [.int (be j)]) (rest := []) ⟨hx, hb, hml, hown, hts⟩ (c_bc l (D := D) (cA := cA) (H0 := H0) (x := be j) (hs := by first | exact hsa j hj | exact hsb j hj | exact hst j hj)) (va_cwS 1 hts gX3_toldOf_J6_bitCount_0f7a4 rfl rfl rfl (by decide +kernel) ⟨Nat.le_of_ble_eq_true rfl, Nat.le_of_ble_eq_true rfl⟩) (cP_S hK) rfl rfl hl.1 rfl (lv_room (Nat.le_of_ble_eq_true rfl)) dX3_toldOf_103 ⟨by omega, by omega⟩) ?_
    exact RO_zret hx hb hr hlk hH dX3_toldOf_106 (by rfl) (by first | rfl | simp [tolV, bI])
  · have hl : lv_has ls 3 [(0, .ref qx), (1, .int (nI j)), (2, .int (nI 5))] := hl
    refine lv_tableIn (tgt := 107) hx hb dX3_toldOf_1 (by decide) (by decide) rfl (by decide) ?_
    refine lv_aload_n hx hb dX3_toldOf_107 rfl (lv_at hl 0 rfl) ?_
    refine va_get (D := D) (ci := 3) (v := .ref qs) (C := RX3) (T := TX3) (N := 4) hx hb hts hinX3 hown hK.1 hP 0 rfl rfl 0 (by decide) (hts (.fieldLink RX3 10 "CairnShells" "strata" "LCairnShells$Strata;") (by decide +kernel)) (fun _ h9 => h9) rfl dX3_toldOf_108 ?_
    refine lv_iload_n hx hb dX3_toldOf_111 rfl (lv_at hl 1 rfl) ?_
    refine RO_go (va_runV (As := [.int (nI j)]) (rest := []) ⟨hx, hb, hml, hown, hts⟩ (c_X2_onTop l (D := D) (cA := cA) (H0 := H0) (j := j) (hj := by omega) (hP := hP.sub (ws' := [(qs, .inr (2, [.int (nI N), .ref qal, .ref qbe, .ref qto, .ref qod, .ref qph])), (qto, .inl (cA, 14, .inl to))]) [1, 4] rfl)) (cwV 1 hts gX3_toldOf_X2_onTop rfl rfl rfl (by decide +kernel) ⟨Nat.le_of_ble_eq_true rfl, Nat.le_of_ble_eq_true rfl⟩) (cP_V hK (va_recv hK.1 hP (ci := 2) (q0 := 1) rfl rfl)) rfl rfl hl.1 rfl (lv_room (Nat.le_of_ble_eq_true rfl)) dX3_toldOf_112 ⟨by omega, by omega⟩) ?_
    refine RO_go (va_runS (As := [.int (to j)]) (rest := []) ⟨hx, hb, hml, hown, hts⟩ (c_bc l (D := D) (cA := cA) (H0 := H0) (x := to j) (hs := by first | exact hsa j hj | exact hsb j hj | exact hst j hj)) (va_cwS 1 hts gX3_toldOf_J6_bitCount_0f7a4 rfl rfl rfl (by decide +kernel) ⟨Nat.le_of_ble_eq_true rfl, Nat.le_of_ble_eq_true rfl⟩) (cP_S hK) rfl rfl hl.1 rfl (lv_room (Nat.le_of_ble_eq_true rfl)) dX3_toldOf_115 ⟨by omega, by omega⟩) ?_
    exact RO_zret hx hb hr hlk hH dX3_toldOf_118 (by rfl) (by first | rfl | simp [tolV, bI])
  · have hl : lv_has ls 3 [(0, .ref qx), (1, .int (nI j)), (2, .int (nI 6))] := hl
    refine lv_tableIn (tgt := 119) hx hb dX3_toldOf_1 (by decide) (by decide) rfl (by decide) ?_
    refine lv_aload_n hx hb dX3_toldOf_119 rfl (lv_at hl 0 rfl) ?_
    refine va_get (D := D) (ci := 3) (v := .ref qs) (C := RX3) (T := TX3) (N := 4) hx hb hts hinX3 hown hK.1 hP 0 rfl rfl 0 (by decide) (hts (.fieldLink RX3 10 "CairnShells" "strata" "LCairnShells$Strata;") (by decide +kernel)) (fun _ h9 => h9) rfl dX3_toldOf_120 ?_
    refine lv_iload_n hx hb dX3_toldOf_123 rfl (lv_at hl 1 rfl) ?_
    refine RO_go (va_runV (As := [.int (nI j)]) (rest := []) ⟨hx, hb, hml, hown, hts⟩ (c_X2_alike l (D := D) (cA := cA) (H0 := H0) (j := j) (hj := by omega) (hP := hP.sub (ws' := [(qs, .inr (2, [.int (nI N), .ref qal, .ref qbe, .ref qto, .ref qod, .ref qph])), (qal, .inl (cA, 14, .inl al))]) [1, 2] rfl)) (cwV 1 hts gX3_toldOf_X2_alike rfl rfl rfl (by decide +kernel) ⟨Nat.le_of_ble_eq_true rfl, Nat.le_of_ble_eq_true rfl⟩) (cP_V hK (va_recv hK.1 hP (ci := 2) (q0 := 1) rfl rfl)) rfl rfl hl.1 rfl (lv_room (Nat.le_of_ble_eq_true rfl)) dX3_toldOf_124 ⟨by omega, by omega⟩) ?_
    refine RO_go (va_runS (As := [.int (al j)]) (rest := []) ⟨hx, hb, hml, hown, hts⟩ (c_bc l (D := D) (cA := cA) (H0 := H0) (x := al j) (hs := by first | exact hsa j hj | exact hsb j hj | exact hst j hj)) (va_cwS 1 hts gX3_toldOf_J6_bitCount_0f7a4 rfl rfl rfl (by decide +kernel) ⟨Nat.le_of_ble_eq_true rfl, Nat.le_of_ble_eq_true rfl⟩) (cP_S hK) rfl rfl hl.1 rfl (lv_room (Nat.le_of_ble_eq_true rfl)) dX3_toldOf_127 ⟨by omega, by omega⟩) ?_
    exact RO_zret hx hb hr hlk hH dX3_toldOf_130 (by rfl) (by first | rfl | simp [tolV, bI])
  · have hl : lv_has ls 3 [(0, .ref qx), (1, .int (nI j)), (2, .int (nI 7))] := hl
    refine lv_tableIn (tgt := 131) hx hb dX3_toldOf_1 (by decide) (by decide) rfl (by decide) ?_
    refine lv_aload_n hx hb dX3_toldOf_131 rfl (lv_at hl 0 rfl) ?_
    refine lv_iload_n hx hb dX3_toldOf_132 rfl (lv_at hl 1 rfl) ?_
    refine RO_go (va_runV (As := [.int (nI j)]) (rest := []) ⟨hx, hb, hml, hown, hts⟩ (c_X3_season l (D := D) (cA := cA) (H0 := H0) (j := j) (hj := by omega) (hP := hP.sub (ws' := [(qx, .inr (3, [.ref qs, .ref qv, .ref qh, .ref qt])), (qs, .inr (2, [.int (nI N), .ref qal, .ref qbe, .ref qto, .ref qod, .ref qph])), (qal, .inl (cA, 14, .inl al)), (qv, .inr (1, [.ref qm])), (qm, .inl (cA, 56, .inl mn))]) [0, 1, 2, 6, 7] rfl)) (cwV 1 hts gX3_toldOf_X3_season rfl rfl rfl (by decide +kernel) ⟨Nat.le_of_ble_eq_true rfl, Nat.le_of_ble_eq_true rfl⟩) (cP_V hK (va_recv hK.1 hP (ci := 3) (q0 := 0) rfl rfl)) rfl rfl hl.1 rfl (lv_room (Nat.le_of_ble_eq_true rfl)) dX3_toldOf_133 ⟨by omega, by omega⟩) ?_
    exact RO_zret hx hb hr hlk hH dX3_toldOf_136 (by rfl) (by first | rfl | simp [tolV, bI])
  · have hl : lv_has ls 3 [(0, .ref qx), (1, .int (nI j)), (2, .int (nI 8))] := hl
    refine lv_tableOut (tgt := 137) hx hb dX3_toldOf_1 (by decide) (by decide) ?_
    refine lv_aload_n hx hb dX3_toldOf_137 rfl (lv_at hl 0 rfl) ?_
    refine va_get (D := D) (ci := 3) (v := .ref qh) (C := RX3) (T := TX3) (N := 4) hx hb hts hinX3 hown hK.1 hP 0 rfl rfl 2 (by decide) (hts (.fieldLink RX3 26 "CairnShells" "hearths" "LCairnShells$Hearths;") (by decide +kernel)) (fun _ h9 => h9) rfl dX3_toldOf_138 ?_
    refine lv_iload_n hx hb dX3_toldOf_141 rfl (lv_at hl 1 rfl) ?_
    refine RO_go (va_runV (As := [.int (nI j)]) (rest := []) ⟨hx, hb, hml, hown, hts⟩ (c_X0_isAt l (D := D) (cA := cA) (H0 := H0) (j := j) (hj := by omega) (hP := hP.sub (ws' := [(qh, .inr (0, [.int bu, .ref qf, .ref ql]))]) [8] rfl)) (cwV 1 hts gX3_toldOf_X0_isAt rfl rfl rfl (by decide +kernel) ⟨Nat.le_of_ble_eq_true rfl, Nat.le_of_ble_eq_true rfl⟩) (cP_V hK (va_recv hK.1 hP (ci := 0) (q0 := 8) rfl rfl)) rfl rfl hl.1 rfl (lv_room (Nat.le_of_ble_eq_true rfl)) dX3_toldOf_142 ⟨by omega, by omega⟩) ?_
    refine my_ifeq_b (tgt := 152) hx hb dX3_toldOf_145 (by decide) (fun h2 => ?_) (fun h2 => ?_)
    · refine lv_iconst (v := 0) hx hb dX3_toldOf_152 (by decide) ?_
      exact RO_zret hx hb hr hlk hH dX3_toldOf_153 (by rfl) (by first | rfl | simp [tolV, bI, h2])
    · refine lv_iconst (v := 1) hx hb dX3_toldOf_148 (by decide) ?_
      refine lv_goto (tgt := 153) hx hb dX3_toldOf_149 (by decide) ?_
      exact RO_zret hx hb hr hlk hH dX3_toldOf_153 (by rfl) (by first | rfl | simp [tolV, bI, h2])
set_option maxHeartbeats 4000000 in
set_option maxRecDepth 100000 in
theorem c_X3_counted (l : Launch) {D : va_G} {cA : ClassId} {H0 : Heap} {qx qs qv qh qt qal qbe qto qod qph N : Nat} {al be to ph : Nat → Int32} {qm : Nat} {mn : Nat → Int32} {qf ql : Nat} {bu : Int32} {fi la : Nat → Int32} (w : Nat) (hw : w < 7) (hN : N ≤ 14) (hsa : ∀ j, j < N → small (al j)) (hsb : ∀ j, j < N → small (be j)) (hst : ∀ j, j < N → small (to j)) (hsu : small bu) (hP : va_P D vwCl [(qx, .inr (3, [.ref qs, .ref qv, .ref qh, .ref qt])), (qs, .inr (2, [.int (nI N), .ref qal, .ref qbe, .ref qto, .ref qod, .ref qph])), (qal, .inl (cA, 14, .inl al)), (qbe, .inl (cA, 14, .inl be)), (qto, .inl (cA, 14, .inl to)), (qph, .inl (cA, 14, .inl ph)), (qv, .inr (1, [.ref qm])), (qm, .inl (cA, 56, .inl mn)), (qh, .inr (0, [.int bu, .ref qf, .ref ql])), (qf, .inl (cA, 14, .inl fi)), (ql, .inl (cA, 14, .inl la))] H0) : RO l yX3_counted wsX3_counted 5 111 [.ref qx, .int (nI w)] D cA H0 (some (.int (couV N al be to ph mn bu fi la w))) := by
  refine RO_of (cc := cX3_counted) (maxL := 2) (ret := (some .int)) (by decide) rfl (Nat.le_of_ble_eq_true rfl) ?_
  intro p e s m below meth c ls hx hb hml hr hown hts hlk hH hK hl
  have hown : s.vm.findClass RX3 = some m.cls := hown
  have hl : lv_has ls 2 [(0, .ref qx), (1, .int (nI w))] := hl
  have hinX0 : ∀ w ∈ wsX00, w ∈ wsX3_counted := by decide +kernel
  have hinX1 : ∀ w ∈ wsX10, w ∈ wsX3_counted := by decide +kernel
  have hinX2 : ∀ w ∈ wsX20, w ∈ wsX3_counted := by decide +kernel
  have hinX3 : ∀ w ∈ wsX30, w ∈ wsX3_counted := by decide +kernel
  refine lv_iload_n hx hb dX3_counted_0 rfl (lv_at hl 1 rfl) ?_
  rcases (show w = 0 ∨ w = 1 ∨ w = 2 ∨ w = 3 ∨ w = 4 ∨ w = 5 ∨ w = 6 by omega) with rfl | rfl | rfl | rfl | rfl | rfl | rfl
  · have hl : lv_has ls 2 [(0, .ref qx), (1, .int (nI 0))] := hl
    refine lv_tableIn (tgt := 40) hx hb dX3_counted_1 (by decide) (by decide) rfl (by decide) ?_
    refine lv_aload_n hx hb dX3_counted_40 rfl (lv_at hl 0 rfl) ?_
    refine va_get (D := D) (ci := 3) (v := .ref qs) (C := RX3) (T := TX3) (N := 4) hx hb hts hinX3 hown hK.1 hP 0 rfl rfl 0 (by decide) (hts (.fieldLink RX3 10 "CairnShells" "strata" "LCairnShells$Strata;") (by decide +kernel)) (fun _ h9 => h9) rfl dX3_counted_41 ?_
    refine RO_go (va_runV (As := []) (rest := []) ⟨hx, hb, hml, hown, hts⟩ (c_X2_size l (D := D) (cA := cA) (H0 := H0)  (hP := hP.sub (ws' := [(qs, .inr (2, [.int (nI N), .ref qal, .ref qbe, .ref qto, .ref qod, .ref qph]))]) [1] rfl)) (cwV 0 hts gX3_counted_X2_size rfl rfl rfl (by decide +kernel) ⟨Nat.le_of_ble_eq_true rfl, Nat.le_of_ble_eq_true rfl⟩) (cP_V hK (va_recv hK.1 hP (ci := 2) (q0 := 1) rfl rfl)) rfl rfl hl.1 rfl (lv_room (Nat.le_of_ble_eq_true rfl)) dX3_counted_44 ⟨by omega, by omega⟩) ?_
    exact RO_zret hx hb hr hlk hH dX3_counted_47 (by rfl) rfl
  · have hl : lv_has ls 2 [(0, .ref qx), (1, .int (nI 1))] := hl
    refine lv_tableIn (tgt := 48) hx hb dX3_counted_1 (by decide) (by decide) rfl (by decide) ?_
    refine lv_aload_n hx hb dX3_counted_48 rfl (lv_at hl 0 rfl) ?_
    refine va_get (D := D) (ci := 3) (v := .ref qs) (C := RX3) (T := TX3) (N := 4) hx hb hts hinX3 hown hK.1 hP 0 rfl rfl 0 (by decide) (hts (.fieldLink RX3 10 "CairnShells" "strata" "LCairnShells$Strata;") (by decide +kernel)) (fun _ h9 => h9) rfl dX3_counted_49 ?_
    refine RO_go (va_runV (As := []) (rest := []) ⟨hx, hb, hml, hown, hts⟩ (c_X2_phases l (D := D) (cA := cA) (H0 := H0) (hN := by omega) (hP := hP.sub (ws' := [(qs, .inr (2, [.int (nI N), .ref qal, .ref qbe, .ref qto, .ref qod, .ref qph])), (qph, .inl (cA, 14, .inl ph))]) [1, 5] rfl)) (cwV 0 hts gX3_counted_X2_phases rfl rfl rfl (by decide +kernel) ⟨Nat.le_of_ble_eq_true rfl, Nat.le_of_ble_eq_true rfl⟩) (cP_V hK (va_recv hK.1 hP (ci := 2) (q0 := 1) rfl rfl)) rfl rfl hl.1 rfl (lv_room (Nat.le_of_ble_eq_true rfl)) dX3_counted_52 ⟨by omega, by omega⟩) ?_
    exact RO_zret hx hb hr hlk hH dX3_counted_55 (by rfl) rfl
  · have hl : lv_has ls 2 [(0, .ref qx), (1, .int (nI 2))] := hl
    refine lv_tableIn (tgt := 56) hx hb dX3_counted_1 (by decide) (by decide) rfl (by decide) ?_
    refine lv_aload_n hx hb dX3_counted_56 rfl (lv_at hl 0 rfl) ?_
    refine lv_aload_n hx hb dX3_counted_57 rfl (lv_at hl 0 rfl) ?_
    refine va_get (D := D) (ci := 3) (v := .ref qh) (C := RX3) (T := TX3) (N := 4) hx hb hts hinX3 hown hK.1 hP 0 rfl rfl 2 (by decide) (hts (.fieldLink RX3 26 "CairnShells" "hearths" "LCairnShells$Hearths;") (by decide +kernel)) (fun _ h9 => h9) rfl dX3_counted_58 ?_
    refine RO_go (va_runV (As := [.ref qh]) (rest := []) ⟨hx, hb, hml, hown, hts⟩ (c_X3_doubtfulLayers l (D := D) (cA := cA) (H0 := H0) (hN := by omega) (hP := hP.sub (ws' := [(qx, .inr (3, [.ref qs, .ref qv, .ref qh, .ref qt])), (qs, .inr (2, [.int (nI N), .ref qal, .ref qbe, .ref qto, .ref qod, .ref qph])), (qal, .inl (cA, 14, .inl al)), (qbe, .inl (cA, 14, .inl be)), (qto, .inl (cA, 14, .inl to)), (qh, .inr (0, [.int bu, .ref qf, .ref ql])), (qf, .inl (cA, 14, .inl fi)), (ql, .inl (cA, 14, .inl la))]) [0, 1, 2, 3, 4, 8, 9, 10] rfl)) (cwV 1 hts gX3_counted_X3_doubtfulLayers rfl rfl rfl (by decide +kernel) ⟨Nat.le_of_ble_eq_true rfl, Nat.le_of_ble_eq_true rfl⟩) (cP_V hK (va_recv hK.1 hP (ci := 3) (q0 := 0) rfl rfl)) rfl rfl hl.1 rfl (lv_room (Nat.le_of_ble_eq_true rfl)) dX3_counted_61 ⟨by omega, by omega⟩) ?_
    exact RO_zret hx hb hr hlk hH dX3_counted_64 (by rfl) rfl
  · have hl : lv_has ls 2 [(0, .ref qx), (1, .int (nI 3))] := hl
    refine lv_tableIn (tgt := 65) hx hb dX3_counted_1 (by decide) (by decide) rfl (by decide) ?_
    refine lv_aload_n hx hb dX3_counted_65 rfl (lv_at hl 0 rfl) ?_
    refine va_get (D := D) (ci := 3) (v := .ref qh) (C := RX3) (T := TX3) (N := 4) hx hb hts hinX3 hown hK.1 hP 0 rfl rfl 2 (by decide) (hts (.fieldLink RX3 26 "CairnShells" "hearths" "LCairnShells$Hearths;") (by decide +kernel)) (fun _ h9 => h9) rfl dX3_counted_66 ?_
    refine RO_go (va_runV (As := []) (rest := []) ⟨hx, hb, hml, hown, hts⟩ (c_X0_size l (D := D) (cA := cA) (H0 := H0) (hs := by assumption) (hP := hP.sub (ws' := [(qh, .inr (0, [.int bu, .ref qf, .ref ql]))]) [8] rfl)) (cwV 0 hts gX3_counted_X0_size rfl rfl rfl (by decide +kernel) ⟨Nat.le_of_ble_eq_true rfl, Nat.le_of_ble_eq_true rfl⟩) (cP_V hK (va_recv hK.1 hP (ci := 0) (q0 := 8) rfl rfl)) rfl rfl hl.1 rfl (lv_room (Nat.le_of_ble_eq_true rfl)) dX3_counted_69 ⟨by omega, by omega⟩) ?_
    exact RO_zret hx hb hr hlk hH dX3_counted_72 (by rfl) rfl
  · have hl : lv_has ls 2 [(0, .ref qx), (1, .int (nI 4))] := hl
    refine lv_tableIn (tgt := 73) hx hb dX3_counted_1 (by decide) (by decide) rfl (by decide) ?_
    refine lv_aload_n hx hb dX3_counted_73 rfl (lv_at hl 0 rfl) ?_
    refine va_get (D := D) (ci := 3) (v := .ref qs) (C := RX3) (T := TX3) (N := 4) hx hb hts hinX3 hown hK.1 hP 0 rfl rfl 0 (by decide) (hts (.fieldLink RX3 10 "CairnShells" "strata" "LCairnShells$Strata;") (by decide +kernel)) (fun _ h9 => h9) rfl dX3_counted_74 ?_
    refine RO_go (va_runV (As := []) (rest := []) ⟨hx, hb, hml, hown, hts⟩ (c_X2_pairs l (D := D) (cA := cA) (H0 := H0) (hN := by omega) (hsm := hsb) (hP := hP.sub (ws' := [(qs, .inr (2, [.int (nI N), .ref qal, .ref qbe, .ref qto, .ref qod, .ref qph])), (qbe, .inl (cA, 14, .inl be))]) [1, 3] rfl)) (cwV 0 hts gX3_counted_X2_pairs rfl rfl rfl (by decide +kernel) ⟨Nat.le_of_ble_eq_true rfl, Nat.le_of_ble_eq_true rfl⟩) (cP_V hK (va_recv hK.1 hP (ci := 2) (q0 := 1) rfl rfl)) rfl rfl hl.1 rfl (lv_room (Nat.le_of_ble_eq_true rfl)) dX3_counted_77 ⟨by omega, by omega⟩) ?_
    exact RO_zret hx hb hr hlk hH dX3_counted_80 (by rfl) rfl
  · have hl : lv_has ls 2 [(0, .ref qx), (1, .int (nI 5))] := hl
    refine lv_tableIn (tgt := 81) hx hb dX3_counted_1 (by decide) (by decide) rfl (by decide) ?_
    refine lv_aload_n hx hb dX3_counted_81 rfl (lv_at hl 0 rfl) ?_
    refine va_get (D := D) (ci := 3) (v := .ref qs) (C := RX3) (T := TX3) (N := 4) hx hb hts hinX3 hown hK.1 hP 0 rfl rfl 0 (by decide) (hts (.fieldLink RX3 10 "CairnShells" "strata" "LCairnShells$Strata;") (by decide +kernel)) (fun _ h9 => h9) rfl dX3_counted_82 ?_
    refine RO_go (va_runV (As := []) (rest := []) ⟨hx, hb, hml, hown, hts⟩ (c_X2_sorts l (D := D) (cA := cA) (H0 := H0) (hN := by omega) (hP := hP.sub (ws' := [(qs, .inr (2, [.int (nI N), .ref qal, .ref qbe, .ref qto, .ref qod, .ref qph])), (qal, .inl (cA, 14, .inl al))]) [1, 2] rfl)) (cwV 0 hts gX3_counted_X2_sorts rfl rfl rfl (by decide +kernel) ⟨Nat.le_of_ble_eq_true rfl, Nat.le_of_ble_eq_true rfl⟩) (cP_V hK (va_recv hK.1 hP (ci := 2) (q0 := 1) rfl rfl)) rfl rfl hl.1 rfl (lv_room (Nat.le_of_ble_eq_true rfl)) dX3_counted_85 ⟨by omega, by omega⟩) ?_
    exact RO_zret hx hb hr hlk hH dX3_counted_88 (by rfl) rfl
  · have hl : lv_has ls 2 [(0, .ref qx), (1, .int (nI 6))] := hl
    refine lv_tableOut (tgt := 89) hx hb dX3_counted_1 (by decide) (by decide) ?_
    refine lv_aload_n hx hb dX3_counted_89 rfl (lv_at hl 0 rfl) ?_
    refine va_get (D := D) (ci := 3) (v := .ref qv) (C := RX3) (T := TX3) (N := 4) hx hb hts hinX3 hown hK.1 hP 0 rfl rfl 1 (by decide) (hts (.fieldLink RX3 19 "CairnShells" "sieve" "LCairnShells$Sieve;") (by decide +kernel)) (fun _ h9 => h9) rfl dX3_counted_90 ?_
    refine RO_go (va_runV (As := []) (rest := []) ⟨hx, hb, hml, hown, hts⟩ (c_X1_all l (D := D) (cA := cA) (H0 := H0)  (hP := hP.sub (ws' := [(qv, .inr (1, [.ref qm])), (qm, .inl (cA, 56, .inl mn))]) [6, 7] rfl)) (cwV 0 hts gX3_counted_X1_all rfl rfl rfl (by decide +kernel) ⟨Nat.le_of_ble_eq_true rfl, Nat.le_of_ble_eq_true rfl⟩) (cP_V hK (va_recv hK.1 hP (ci := 1) (q0 := 6) rfl rfl)) rfl rfl hl.1 rfl (lv_room (Nat.le_of_ble_eq_true rfl)) dX3_counted_93 ⟨by omega, by omega⟩) ?_
    exact RO_zret hx hb hr hlk hH dX3_counted_96 (by rfl) rfl
set_option maxHeartbeats 4000000 in
set_option maxRecDepth 100000 in
theorem c_X3_mixedLayer (l : Launch) {D : va_G} {cA : ClassId} {H0 : Heap} {qx qs qv qh qt qal qbe qto qod qph N : Nat} {al be to ph : Nat → Int32} {qm : Nat} {mn : Nat → Int32} {qf ql : Nat} {bu : Int32} {fi la : Nat → Int32} (d0 : Int64) (j : Nat) (hj : j < N) (hN : N ≤ 14) (hsa : ∀ j, j < N → small (al j)) (hsb : ∀ j, j < N → small (be j)) (hst : ∀ j, j < N → small (to j)) (hP : va_P D vwCl [(qx, .inr (3, [.ref qs, .ref qv, .ref qh, .ref qt])), (qs, .inr (2, [.int (nI N), .ref qal, .ref qbe, .ref qto, .ref qod, .ref qph])), (qal, .inl (cA, 14, .inl al)), (qbe, .inl (cA, 14, .inl be)), (qto, .inl (cA, 14, .inl to)), (qph, .inl (cA, 14, .inl ph)), (qv, .inr (1, [.ref qm])), (qm, .inl (cA, 56, .inl mn)), (qh, .inr (0, [.int bu, .ref qf, .ref ql])), (qf, .inl (cA, 14, .inl fi)), (ql, .inl (cA, 14, .inl la))] H0) : RO l yX3_mixedLayer wsX3_mixedLayer 5 118 [.ref qx, .long d0, .int (nI j)] D cA H0 (some (.long (mxL N al be to ph mn bu fi la j d0))) := by
  refine RO_of (cc := cX3_mixedLayer) (maxL := 7) (ret := (some .long)) (by decide) rfl (Nat.le_of_ble_eq_true rfl) ?_
  intro p e s m below meth c ls hx hb hml hr hown hts hlk hH hK hl
  have hown : s.vm.findClass RX3 = some m.cls := hown
  have hl : lv_has ls 7 [(0, .ref qx), (1, .long d0), (3, .int (nI j))] := hl
  have hinX0 : ∀ w ∈ wsX00, w ∈ wsX3_mixedLayer := by decide +kernel
  have hinX1 : ∀ w ∈ wsX10, w ∈ wsX3_mixedLayer := by decide +kernel
  have hinX2 : ∀ w ∈ wsX20, w ∈ wsX3_mixedLayer := by decide +kernel
  have hinX3 : ∀ w ∈ wsX30, w ∈ wsX3_mixedLayer := by decide +kernel
  refine lv_lload_n hx hb dX3_mixedLayer_0 rfl (lv_at hl 1 rfl) ?_
  refine lv_lstore (lv' := [(4, .long d0), (0, .ref qx), (1, .long d0), (3, .int (nI j))]) hx hb dX3_mixedLayer_1 hl (by decide) rfl (fun ls hl => ?_)
  refine lv_iconst (v := 0) hx hb dX3_mixedLayer_3 (by decide) ?_
  refine lv_istore (lv' := [(6, .int 0), (4, .long d0), (0, .ref qx), (1, .long d0), (3, .int (nI j))]) hx hb dX3_mixedLayer_4 hl (by decide) rfl (fun ls hl => ?_)
  suffices loop : ∀ (n k : Nat) (y1 : Int64), k ≤ 9 → 9 < k + n → y1 = mxT (tolV N al be to ph mn bu fi la j) d0 k → ∀ ls, lv_has ls 7 [(6, .int (nI k)), (4, .long y1), (0, .ref qx), (1, .long d0), (3, .int (nI j))] → W p l e { frames := 5, cells := 0, slots := 0, locals := 118 } s m ([.ref qx, .long d0, .int (nI j)] : List Value).toArray below meth c H0 [] 0 0 (MQ below (roQ (some (.long (mxL N al be to ph mn bu fi la j d0))) H0) ([.ref qx, .long d0, .int (nI j)] : List Value).toArray s 0 0 (fun _ => False)) (F0 m 6 ls []) from loop (9 + 1) 0 d0 (by omega) (by omega) (by first | rfl | simp [mxT]) _ (lv_sub hl [0, 1, 2, 3, 4] rfl)
  intro n
  induction n with
  | zero => intro k y1 hk1 hk2; exact absurd hk2 (by omega)
  | succ n ih6 =>
    intro k y1 hk6 hn6 ey1 ls hl
    refine lv_iload hx hb dX3_mixedLayer_6 (lv_at hl 0 rfl) ?_
    refine lv_bipush (v := 9) hx hb dX3_mixedLayer_8 (by decide) ?_
    refine my_geN (x := k) (y := 9) (tgt := 34) hx hb dX3_mixedLayer_10 (by decide) (by omega) (by omega) (fun h1 => ?_) (fun h1 => ?_)
    · obtain rfl : k = 9 := by omega
      subst ey1
      refine lv_iconst (v := 0) hx hb dX3_mixedLayer_34 (by decide) ?_
      refine lv_istore (lv' := [(6, .int 0), (4, .long (mxT (tolV N al be to ph mn bu fi la j) d0 9)), (0, .ref qx), (1, .long d0), (3, .int (nI j))]) hx hb dX3_mixedLayer_35 hl (by decide) rfl (fun ls hl => ?_)
      suffices loop : ∀ (n k : Nat) (y2 : Int64), k ≤ 4 → 4 < k + n → y2 = mxT (fun kd => sS mn (al j) kd 14) (mxT (tolV N al be to ph mn bu fi la j) d0 9) k → ∀ ls, lv_has ls 7 [(6, .int (nI k)), (4, .long y2), (0, .ref qx), (1, .long d0), (3, .int (nI j))] → W p l e { frames := 5, cells := 0, slots := 0, locals := 118 } s m ([.ref qx, .long d0, .int (nI j)] : List Value).toArray below meth c H0 [] 0 0 (MQ below (roQ (some (.long (mxL N al be to ph mn bu fi la j d0))) H0) ([.ref qx, .long d0, .int (nI j)] : List Value).toArray s 0 0 (fun _ => False)) (F0 m 37 ls []) from loop (4 + 1) 0 (mxT (tolV N al be to ph mn bu fi la j) d0 9) (by omega) (by omega) (by first | rfl | simp [mxT]) _ (lv_sub hl [0, 1, 2, 3, 4] rfl)
      intro n
      induction n with
      | zero => intro k y2 hk1 hk2; exact absurd hk2 (by omega)
      | succ n ih37 =>
        intro k y2 hk37 hn37 ey2 ls hl
        refine lv_iload hx hb dX3_mixedLayer_37 (lv_at hl 0 rfl) ?_
        refine lv_iconst (v := 4) hx hb dX3_mixedLayer_39 (by decide) ?_
        refine my_geN (x := k) (y := 4) (tgt := 64) hx hb dX3_mixedLayer_40 (by decide) (by omega) (by omega) (fun h2 => ?_) (fun h2 => ?_)
        · obtain rfl : k = 4 := by omega
          subst ey2
          refine lv_lload hx hb dX3_mixedLayer_64 (lv_at hl 1 rfl) ?_
          refine lv_aload_n hx hb dX3_mixedLayer_66 rfl (lv_at hl 2 rfl) ?_
          refine va_get (D := D) (ci := 3) (v := .ref qs) (C := RX3) (T := TX3) (N := 4) hx hb hts hinX3 hown hK.1 hP 0 rfl rfl 0 (by decide) (hts (.fieldLink RX3 10 "CairnShells" "strata" "LCairnShells$Strata;") (by decide +kernel)) (fun _ h9 => h9) rfl dX3_mixedLayer_67 ?_
          refine lv_iload_n hx hb dX3_mixedLayer_70 rfl (lv_at hl 4 rfl) ?_
          refine RO_go (va_runV (As := [.int (nI j)]) (rest := [.long (mxT (fun kd => sS mn (al j) kd 14) (mxT (tolV N al be to ph mn bu fi la j) d0 9) 4)]) ⟨hx, hb, hml, hown, hts⟩ (c_X2_below l (D := D) (cA := cA) (H0 := H0) (j := j) (hj := by omega) (hP := hP.sub (ws' := [(qs, .inr (2, [.int (nI N), .ref qal, .ref qbe, .ref qto, .ref qod, .ref qph])), (qbe, .inl (cA, 14, .inl be))]) [1, 3] rfl)) (cwV 1 hts gX3_mixedLayer_X2_below rfl rfl rfl (by decide +kernel) ⟨Nat.le_of_ble_eq_true rfl, Nat.le_of_ble_eq_true rfl⟩) (cP_V hK (va_recv hK.1 hP (ci := 2) (q0 := 1) rfl rfl)) rfl rfl hl.1 rfl (lv_room (Nat.le_of_ble_eq_true rfl)) dX3_mixedLayer_71 ⟨by omega, by omega⟩) ?_
          refine lv_i2l (v := (be j).toInt64) hx hb dX3_mixedLayer_74 rfl ?_
          refine RO_go (va_runS (As := [.long (mxT (fun kd => sS mn (al j) kd 14) (mxT (tolV N al be to ph mn bu fi la j) d0 9) 4), .long ((be j).toInt64)]) (rest := []) ⟨hx, hb, hml, hown, hts⟩ (c_X3_mixed l (D := D) (cA := cA) (H0 := H0) (a := (mxT (fun kd => sS mn (al j) kd 14) (mxT (tolV N al be to ph mn bu fi la j) d0 9) 4)) (b := (be j).toInt64)) (va_cwS 2 hts gX3_mixedLayer_X3_mixed rfl rfl rfl (by decide +kernel) ⟨Nat.le_of_ble_eq_true rfl, Nat.le_of_ble_eq_true rfl⟩) (cP_S hK) rfl rfl hl.1 rfl (lv_room (Nat.le_of_ble_eq_true rfl)) dX3_mixedLayer_75 ⟨by omega, by omega⟩) ?_
          exact RO_lret hx hb hr hlk hH dX3_mixedLayer_78 (by first | rfl | simp [h1, h2])
        · refine lv_lload hx hb dX3_mixedLayer_43 (lv_at hl 1 rfl) ?_
          refine lv_aload_n hx hb dX3_mixedLayer_45 rfl (lv_at hl 2 rfl) ?_
          refine lv_iload_n hx hb dX3_mixedLayer_46 rfl (lv_at hl 4 rfl) ?_
          refine lv_iload hx hb dX3_mixedLayer_47 (lv_at hl 0 rfl) ?_
          refine RO_go (va_runV (As := [.int (nI j), .int (nI k)]) (rest := [.long y2]) ⟨hx, hb, hml, hown, hts⟩ (c_X3_findsOf l (D := D) (cA := cA) (H0 := H0) (j := j) (kd := k) (hj := by omega) (hkd := by omega) (hP := hP.sub (ws' := [(qx, .inr (3, [.ref qs, .ref qv, .ref qh, .ref qt])), (qs, .inr (2, [.int (nI N), .ref qal, .ref qbe, .ref qto, .ref qod, .ref qph])), (qal, .inl (cA, 14, .inl al)), (qv, .inr (1, [.ref qm])), (qm, .inl (cA, 56, .inl mn))]) [0, 1, 2, 6, 7] rfl)) (cwV 2 hts gX3_mixedLayer_X3_findsOf rfl rfl rfl (by decide +kernel) ⟨Nat.le_of_ble_eq_true rfl, Nat.le_of_ble_eq_true rfl⟩) (cP_V hK (va_recv hK.1 hP (ci := 3) (q0 := 0) rfl rfl)) rfl rfl hl.1 rfl (lv_room (Nat.le_of_ble_eq_true rfl)) dX3_mixedLayer_49 ⟨by omega, by omega⟩) ?_
          refine lv_i2l (v := (sS mn (al j) k 14).toInt64) hx hb dX3_mixedLayer_52 rfl ?_
          refine RO_go (va_runS (As := [.long y2, .long ((sS mn (al j) k 14).toInt64)]) (rest := []) ⟨hx, hb, hml, hown, hts⟩ (c_X3_mixed l (D := D) (cA := cA) (H0 := H0) (a := y2) (b := (sS mn (al j) k 14).toInt64)) (va_cwS 2 hts gX3_mixedLayer_X3_mixed rfl rfl rfl (by decide +kernel) ⟨Nat.le_of_ble_eq_true rfl, Nat.le_of_ble_eq_true rfl⟩) (cP_S hK) rfl rfl hl.1 rfl (lv_room (Nat.le_of_ble_eq_true rfl)) dX3_mixedLayer_53 ⟨by omega, by omega⟩) ?_
          refine lv_lstore (lv' := [(4, .long (y2 * 31 + ((sS mn (al j) k 14).toInt64))), (6, .int (nI k)), (0, .ref qx), (1, .long d0), (3, .int (nI j))]) hx hb dX3_mixedLayer_56 hl (by decide) rfl (fun ls hl => ?_)
          refine lv_iinc (v := nI (k + 1)) (x := nI k) (lv' := [(6, .int (nI (k + 1))), (4, .long (y2 * 31 + ((sS mn (al j) k 14).toInt64))), (0, .ref qx), (1, .long d0), (3, .int (nI j))]) hx hb dX3_mixedLayer_58 hl (k := 1) rfl (nI_1 k) (by decide) rfl (fun ls hl => ?_)
          refine lv_goto (tgt := 37) hx hb dX3_mixedLayer_61 (by decide) ?_
          exact ih37 (k + 1) (y2 * 31 + ((sS mn (al j) k 14).toInt64)) (by omega) (by omega) (by subst ey2; first | rfl | simp [mxT, h1, h2]) _ (lv_sub hl [0, 1, 2, 3, 4] rfl)
    · refine lv_lload hx hb dX3_mixedLayer_13 (lv_at hl 1 rfl) ?_
      refine lv_aload_n hx hb dX3_mixedLayer_15 rfl (lv_at hl 2 rfl) ?_
      refine lv_iload_n hx hb dX3_mixedLayer_16 rfl (lv_at hl 4 rfl) ?_
      refine lv_iload hx hb dX3_mixedLayer_17 (lv_at hl 0 rfl) ?_
      refine RO_go (va_runV (As := [.int (nI j), .int (nI k)]) (rest := [.long y1]) ⟨hx, hb, hml, hown, hts⟩ (c_X3_toldOf l (D := D) (cA := cA) (H0 := H0) (j := j) (w := k) (hj := by omega) (hw := by omega) (hN := by omega) (hsa := hsa) (hsb := hsb) (hst := hst) (hP := hP.sub (ws' := [(qx, .inr (3, [.ref qs, .ref qv, .ref qh, .ref qt])), (qs, .inr (2, [.int (nI N), .ref qal, .ref qbe, .ref qto, .ref qod, .ref qph])), (qal, .inl (cA, 14, .inl al)), (qbe, .inl (cA, 14, .inl be)), (qto, .inl (cA, 14, .inl to)), (qph, .inl (cA, 14, .inl ph)), (qv, .inr (1, [.ref qm])), (qm, .inl (cA, 56, .inl mn)), (qh, .inr (0, [.int bu, .ref qf, .ref ql])), (qf, .inl (cA, 14, .inl fi)), (ql, .inl (cA, 14, .inl la))]) [0, 1, 2, 3, 4, 5, 6, 7, 8, 9, 10] rfl)) (cwV 2 hts gX3_mixedLayer_X3_toldOf rfl rfl rfl (by decide +kernel) ⟨Nat.le_of_ble_eq_true rfl, Nat.le_of_ble_eq_true rfl⟩) (cP_V hK (va_recv hK.1 hP (ci := 3) (q0 := 0) rfl rfl)) rfl rfl hl.1 rfl (lv_room (Nat.le_of_ble_eq_true rfl)) dX3_mixedLayer_19 ⟨by omega, by omega⟩) ?_
      refine lv_i2l (v := (tolV N al be to ph mn bu fi la j k).toInt64) hx hb dX3_mixedLayer_22 rfl ?_
      refine RO_go (va_runS (As := [.long y1, .long ((tolV N al be to ph mn bu fi la j k).toInt64)]) (rest := []) ⟨hx, hb, hml, hown, hts⟩ (c_X3_mixed l (D := D) (cA := cA) (H0 := H0) (a := y1) (b := (tolV N al be to ph mn bu fi la j k).toInt64)) (va_cwS 2 hts gX3_mixedLayer_X3_mixed rfl rfl rfl (by decide +kernel) ⟨Nat.le_of_ble_eq_true rfl, Nat.le_of_ble_eq_true rfl⟩) (cP_S hK) rfl rfl hl.1 rfl (lv_room (Nat.le_of_ble_eq_true rfl)) dX3_mixedLayer_23 ⟨by omega, by omega⟩) ?_
      refine lv_lstore (lv' := [(4, .long (y1 * 31 + ((tolV N al be to ph mn bu fi la j k).toInt64))), (6, .int (nI k)), (0, .ref qx), (1, .long d0), (3, .int (nI j))]) hx hb dX3_mixedLayer_26 hl (by decide) rfl (fun ls hl => ?_)
      refine lv_iinc (v := nI (k + 1)) (x := nI k) (lv' := [(6, .int (nI (k + 1))), (4, .long (y1 * 31 + ((tolV N al be to ph mn bu fi la j k).toInt64))), (0, .ref qx), (1, .long d0), (3, .int (nI j))]) hx hb dX3_mixedLayer_28 hl (k := 1) rfl (nI_1 k) (by decide) rfl (fun ls hl => ?_)
      refine lv_goto (tgt := 6) hx hb dX3_mixedLayer_31 (by decide) ?_
      exact ih6 (k + 1) (y1 * 31 + ((tolV N al be to ph mn bu fi la j k).toInt64)) (by omega) (by omega) (by subst ey1; first | rfl | simp [mxT, h1]) _ (lv_sub hl [0, 1, 2, 3, 4] rfl)
set_option maxHeartbeats 4000000 in
set_option maxRecDepth 100000 in
theorem c_X3_digest (l : Launch) {D : va_G} {cA : ClassId} {H0 : Heap} {qx qs qv qh qt qal qbe qto qod qph N : Nat} {al be to od ph : Nat → Int32} {qm : Nat} {mn : Nat → Int32} {qf ql : Nat} {bu : Int32} {fi la : Nat → Int32} (hN : N ≤ 14) (hsa : ∀ j, j < N → small (al j)) (hsb : ∀ j, j < N → small (be j)) (hst : ∀ j, j < N → small (to j)) (hsu : small bu) (hP : va_P D vwCl [(qx, .inr (3, [.ref qs, .ref qv, .ref qh, .ref qt])), (qs, .inr (2, [.int (nI N), .ref qal, .ref qbe, .ref qto, .ref qod, .ref qph])), (qal, .inl (cA, 14, .inl al)), (qbe, .inl (cA, 14, .inl be)), (qto, .inl (cA, 14, .inl to)), (qod, .inl (cA, 14, .inl od)), (qph, .inl (cA, 14, .inl ph)), (qv, .inr (1, [.ref qm])), (qm, .inl (cA, 56, .inl mn)), (qh, .inr (0, [.int bu, .ref qf, .ref ql])), (qf, .inl (cA, 14, .inl fi)), (ql, .inl (cA, 14, .inl la))] H0) : RO l yX3_digest wsX3_digest 6 144 [.ref qx] D cA H0 (some (.long (digV N al be to od ph mn bu fi la))) := by
  refine RO_of (cc := cX3_digest) (maxL := 4) (ret := (some .long)) (by decide) rfl (Nat.le_of_ble_eq_true rfl) ?_
  intro p e s m below meth c ls hx hb hml hr hown hts hlk hH hK hl
  have hown : s.vm.findClass RX3 = some m.cls := hown
  have hl : lv_has ls 4 [(0, .ref qx)] := hl
  have hinX0 : ∀ w ∈ wsX00, w ∈ wsX3_digest := by decide +kernel
  have hinX1 : ∀ w ∈ wsX10, w ∈ wsX3_digest := by decide +kernel
  have hinX2 : ∀ w ∈ wsX20, w ∈ wsX3_digest := by decide +kernel
  have hinX3 : ∀ w ∈ wsX30, w ∈ wsX3_digest := by decide +kernel
  refine lv_ldc2 (v := 1361) hx hb hown (hts (.constantLong RX3 156 (1361)) (by decide +kernel)) dX3_digest_0 ?_
  refine lv_lstore_n (lv' := [(1, .long 1361), (0, .ref qx)]) hx hb dX3_digest_3 rfl hl (by decide) rfl (fun ls hl => ?_)
  refine lv_iconst (v := 0) hx hb dX3_digest_4 (by decide) ?_
  refine lv_istore_n (lv' := [(3, .int 0), (1, .long 1361), (0, .ref qx)]) hx hb dX3_digest_5 rfl hl (by decide) rfl (fun ls hl => ?_)
  suffices loop : ∀ (n k : Nat) (y1 : Int64), k ≤ 7 → 7 < k + n → y1 = mxT (couV N al be to ph mn bu fi la) 1361 k → ∀ ls, lv_has ls 4 [(3, .int (nI k)), (1, .long y1), (0, .ref qx)] → W p l e { frames := 6, cells := 0, slots := 0, locals := 144 } s m ([.ref qx] : List Value).toArray below meth c H0 [] 0 0 (MQ below (roQ (some (.long (digV N al be to od ph mn bu fi la))) H0) ([.ref qx] : List Value).toArray s 0 0 (fun _ => False)) (F0 m 6 ls []) from loop (7 + 1) 0 1361 (by omega) (by omega) (by first | rfl | simp [mxT]) _ (lv_sub hl [0, 1, 2] rfl)
  intro n
  induction n with
  | zero => intro k y1 hk1 hk2; exact absurd hk2 (by omega)
  | succ n ih6 =>
    intro k y1 hk6 hn6 ey1 ls hl
    refine lv_iload_n hx hb dX3_digest_6 rfl (lv_at hl 0 rfl) ?_
    refine lv_bipush (v := 7) hx hb dX3_digest_7 (by decide) ?_
    refine my_geN (x := k) (y := 7) (tgt := 29) hx hb dX3_digest_9 (by decide) (by omega) (by omega) (fun h1 => ?_) (fun h1 => ?_)
    · obtain rfl : k = 7 := by omega
      subst ey1
      refine lv_iconst (v := 0) hx hb dX3_digest_29 (by decide) ?_
      refine lv_istore_n (lv' := [(3, .int 0), (1, .long (mxT (couV N al be to ph mn bu fi la) 1361 7)), (0, .ref qx)]) hx hb dX3_digest_30 rfl hl (by decide) rfl (fun ls hl => ?_)
      suffices loop : ∀ (n k : Nat) (y2 : Int64), k ≤ N → N < k + n → y2 = mxT od (mxT (couV N al be to ph mn bu fi la) 1361 7) k → ∀ ls, lv_has ls 4 [(3, .int (nI k)), (1, .long y2), (0, .ref qx)] → W p l e { frames := 6, cells := 0, slots := 0, locals := 144 } s m ([.ref qx] : List Value).toArray below meth c H0 [] 0 0 (MQ below (roQ (some (.long (digV N al be to od ph mn bu fi la))) H0) ([.ref qx] : List Value).toArray s 0 0 (fun _ => False)) (F0 m 31 ls []) from loop (N + 1) 0 (mxT (couV N al be to ph mn bu fi la) 1361 7) (by omega) (by omega) (by first | rfl | simp [mxT]) _ (lv_sub hl [0, 1, 2] rfl)
      intro n
      induction n with
      | zero => intro k y2 hk1 hk2; exact absurd hk2 (by omega)
      | succ n ih31 =>
        intro k y2 hk31 hn31 ey2 ls hl
        refine lv_iload_n hx hb dX3_digest_31 rfl (lv_at hl 0 rfl) ?_
        refine lv_aload_n hx hb dX3_digest_32 rfl (lv_at hl 2 rfl) ?_
        refine va_get (D := D) (ci := 3) (v := .ref qs) (C := RX3) (T := TX3) (N := 4) hx hb hts hinX3 hown hK.1 hP 0 rfl rfl 0 (by decide) (hts (.fieldLink RX3 10 "CairnShells" "strata" "LCairnShells$Strata;") (by decide +kernel)) (fun _ h9 => h9) rfl dX3_digest_33 ?_
        refine RO_go (va_runV (As := []) (rest := [.int (nI k)]) ⟨hx, hb, hml, hown, hts⟩ (c_X2_size l (D := D) (cA := cA) (H0 := H0)  (hP := hP.sub (ws' := [(qs, .inr (2, [.int (nI N), .ref qal, .ref qbe, .ref qto, .ref qod, .ref qph]))]) [1] rfl)) (cwV 0 hts gX3_digest_X2_size rfl rfl rfl (by decide +kernel) ⟨Nat.le_of_ble_eq_true rfl, Nat.le_of_ble_eq_true rfl⟩) (cP_V hK (va_recv hK.1 hP (ci := 2) (q0 := 1) rfl rfl)) rfl rfl hl.1 rfl (lv_room (Nat.le_of_ble_eq_true rfl)) dX3_digest_36 ⟨by omega, by omega⟩) ?_
        refine my_geN (x := k) (y := N) (tgt := 62) hx hb dX3_digest_39 (by decide) (by omega) (by omega) (fun h2 => ?_) (fun h2 => ?_)
        · obtain rfl : N = k := by omega
          subst ey2
          refine lv_iconst (v := 0) hx hb dX3_digest_62 (by decide) ?_
          refine lv_istore_n (lv' := [(3, .int 0), (1, .long (mxT od (mxT (couV N al be to ph mn bu fi la) 1361 7) N)), (0, .ref qx)]) hx hb dX3_digest_63 rfl hl (by decide) rfl (fun ls hl => ?_)
          suffices loop : ∀ (n k : Nat) (y3 : Int64), k ≤ N → N < k + n → y3 = mxN N al be to ph mn bu fi la (mxT od (mxT (couV N al be to ph mn bu fi la) 1361 7) N) k → ∀ ls, lv_has ls 4 [(3, .int (nI k)), (1, .long y3), (0, .ref qx)] → W p l e { frames := 6, cells := 0, slots := 0, locals := 144 } s m ([.ref qx] : List Value).toArray below meth c H0 [] 0 0 (MQ below (roQ (some (.long (digV N al be to od ph mn bu fi la))) H0) ([.ref qx] : List Value).toArray s 0 0 (fun _ => False)) (F0 m 64 ls []) from loop (N + 1) 0 (mxT od (mxT (couV N al be to ph mn bu fi la) 1361 7) N) (by omega) (by omega) (by first | rfl | simp [mxN]) _ (lv_sub hl [0, 1, 2] rfl)
          intro n
          induction n with
          | zero => intro k y3 hk1 hk2; exact absurd hk2 (by omega)
          | succ n ih64 =>
            intro k y3 hk64 hn64 ey3 ls hl
            refine lv_iload_n hx hb dX3_digest_64 rfl (lv_at hl 0 rfl) ?_
            refine lv_aload_n hx hb dX3_digest_65 rfl (lv_at hl 2 rfl) ?_
            refine va_get (D := D) (ci := 3) (v := .ref qs) (C := RX3) (T := TX3) (N := 4) hx hb hts hinX3 hown hK.1 hP 0 rfl rfl 0 (by decide) (hts (.fieldLink RX3 10 "CairnShells" "strata" "LCairnShells$Strata;") (by decide +kernel)) (fun _ h9 => h9) rfl dX3_digest_66 ?_
            refine RO_go (va_runV (As := []) (rest := [.int (nI k)]) ⟨hx, hb, hml, hown, hts⟩ (c_X2_size l (D := D) (cA := cA) (H0 := H0)  (hP := hP.sub (ws' := [(qs, .inr (2, [.int (nI N), .ref qal, .ref qbe, .ref qto, .ref qod, .ref qph]))]) [1] rfl)) (cwV 0 hts gX3_digest_X2_size rfl rfl rfl (by decide +kernel) ⟨Nat.le_of_ble_eq_true rfl, Nat.le_of_ble_eq_true rfl⟩) (cP_V hK (va_recv hK.1 hP (ci := 2) (q0 := 1) rfl rfl)) rfl rfl hl.1 rfl (lv_room (Nat.le_of_ble_eq_true rfl)) dX3_digest_69 ⟨by omega, by omega⟩) ?_
            refine my_geN (x := k) (y := N) (tgt := 88) hx hb dX3_digest_72 (by decide) (by omega) (by omega) (fun h3 => ?_) (fun h3 => ?_)
            · obtain rfl : N = k := by omega
              subst ey3
              refine lv_lload_n hx hb dX3_digest_88 rfl (lv_at hl 1 rfl) ?_
              exact RO_lret hx hb hr hlk hH dX3_digest_89 (by first | rfl | simp [h1, h2, h3])
            · refine lv_aload_n hx hb dX3_digest_75 rfl (lv_at hl 2 rfl) ?_
              refine lv_lload_n hx hb dX3_digest_76 rfl (lv_at hl 1 rfl) ?_
              refine lv_iload_n hx hb dX3_digest_77 rfl (lv_at hl 0 rfl) ?_
              refine RO_go (va_runV (As := [.long y3, .int (nI k)]) (rest := []) ⟨hx, hb, hml, hown, hts⟩ (c_X3_mixedLayer l (D := D) (cA := cA) (H0 := H0) (d0 := y3) (j := k) (hj := by omega) (hN := by omega) (hsa := hsa) (hsb := hsb) (hst := hst) (hP := hP.sub (ws' := [(qx, .inr (3, [.ref qs, .ref qv, .ref qh, .ref qt])), (qs, .inr (2, [.int (nI N), .ref qal, .ref qbe, .ref qto, .ref qod, .ref qph])), (qal, .inl (cA, 14, .inl al)), (qbe, .inl (cA, 14, .inl be)), (qto, .inl (cA, 14, .inl to)), (qph, .inl (cA, 14, .inl ph)), (qv, .inr (1, [.ref qm])), (qm, .inl (cA, 56, .inl mn)), (qh, .inr (0, [.int bu, .ref qf, .ref ql])), (qf, .inl (cA, 14, .inl fi)), (ql, .inl (cA, 14, .inl la))]) [0, 1, 2, 3, 4, 6, 7, 8, 9, 10, 11] rfl)) (cwV 2 hts gX3_digest_X3_mixedLayer rfl rfl rfl (by decide +kernel) ⟨Nat.le_of_ble_eq_true rfl, Nat.le_of_ble_eq_true rfl⟩) (cP_V hK (va_recv hK.1 hP (ci := 3) (q0 := 0) rfl rfl)) rfl rfl hl.1 rfl (lv_room (Nat.le_of_ble_eq_true rfl)) dX3_digest_78 ⟨by omega, by omega⟩) ?_
              refine lv_lstore_n (lv' := [(1, .long (mxL N al be to ph mn bu fi la k y3)), (3, .int (nI k)), (0, .ref qx)]) hx hb dX3_digest_81 rfl hl (by decide) rfl (fun ls hl => ?_)
              refine lv_iinc (v := nI (k + 1)) (x := nI k) (lv' := [(3, .int (nI (k + 1))), (1, .long (mxL N al be to ph mn bu fi la k y3)), (0, .ref qx)]) hx hb dX3_digest_82 hl (k := 1) rfl (nI_1 k) (by decide) rfl (fun ls hl => ?_)
              refine lv_goto (tgt := 64) hx hb dX3_digest_85 (by decide) ?_
              exact ih64 (k + 1) (mxL N al be to ph mn bu fi la k y3) (by omega) (by omega) (by subst ey3; first | rfl | simp [mxN, h1, h2, h3]) _ (lv_sub hl [0, 1, 2] rfl)
        · refine lv_lload_n hx hb dX3_digest_42 rfl (lv_at hl 1 rfl) ?_
          refine lv_aload_n hx hb dX3_digest_43 rfl (lv_at hl 2 rfl) ?_
          refine va_get (D := D) (ci := 3) (v := .ref qs) (C := RX3) (T := TX3) (N := 4) hx hb hts hinX3 hown hK.1 hP 0 rfl rfl 0 (by decide) (hts (.fieldLink RX3 10 "CairnShells" "strata" "LCairnShells$Strata;") (by decide +kernel)) (fun _ h9 => h9) rfl dX3_digest_44 ?_
          refine lv_iload_n hx hb dX3_digest_47 rfl (lv_at hl 0 rfl) ?_
          refine RO_go (va_runV (As := [.int (nI k)]) (rest := [.long y2]) ⟨hx, hb, hml, hown, hts⟩ (c_X2_placed l (D := D) (cA := cA) (H0 := H0) (j := k) (hj := by omega) (hP := hP.sub (ws' := [(qs, .inr (2, [.int (nI N), .ref qal, .ref qbe, .ref qto, .ref qod, .ref qph])), (qod, .inl (cA, 14, .inl od))]) [1, 5] rfl)) (cwV 1 hts gX3_digest_X2_placed rfl rfl rfl (by decide +kernel) ⟨Nat.le_of_ble_eq_true rfl, Nat.le_of_ble_eq_true rfl⟩) (cP_V hK (va_recv hK.1 hP (ci := 2) (q0 := 1) rfl rfl)) rfl rfl hl.1 rfl (lv_room (Nat.le_of_ble_eq_true rfl)) dX3_digest_48 ⟨by omega, by omega⟩) ?_
          refine lv_i2l (v := (od k).toInt64) hx hb dX3_digest_51 rfl ?_
          refine RO_go (va_runS (As := [.long y2, .long ((od k).toInt64)]) (rest := []) ⟨hx, hb, hml, hown, hts⟩ (c_X3_mixed l (D := D) (cA := cA) (H0 := H0) (a := y2) (b := (od k).toInt64)) (va_cwS 2 hts gX3_digest_X3_mixed rfl rfl rfl (by decide +kernel) ⟨Nat.le_of_ble_eq_true rfl, Nat.le_of_ble_eq_true rfl⟩) (cP_S hK) rfl rfl hl.1 rfl (lv_room (Nat.le_of_ble_eq_true rfl)) dX3_digest_52 ⟨by omega, by omega⟩) ?_
          refine lv_lstore_n (lv' := [(1, .long (y2 * 31 + ((od k).toInt64))), (3, .int (nI k)), (0, .ref qx)]) hx hb dX3_digest_55 rfl hl (by decide) rfl (fun ls hl => ?_)
          refine lv_iinc (v := nI (k + 1)) (x := nI k) (lv' := [(3, .int (nI (k + 1))), (1, .long (y2 * 31 + ((od k).toInt64))), (0, .ref qx)]) hx hb dX3_digest_56 hl (k := 1) rfl (nI_1 k) (by decide) rfl (fun ls hl => ?_)
          refine lv_goto (tgt := 31) hx hb dX3_digest_59 (by decide) ?_
          exact ih31 (k + 1) (y2 * 31 + ((od k).toInt64)) (by omega) (by omega) (by subst ey2; first | rfl | simp [mxT, h1, h2]) _ (lv_sub hl [0, 1, 2] rfl)
    · refine lv_lload_n hx hb dX3_digest_12 rfl (lv_at hl 1 rfl) ?_
      refine lv_aload_n hx hb dX3_digest_13 rfl (lv_at hl 2 rfl) ?_
      refine lv_iload_n hx hb dX3_digest_14 rfl (lv_at hl 0 rfl) ?_
      refine RO_go (va_runV (As := [.int (nI k)]) (rest := [.long y1]) ⟨hx, hb, hml, hown, hts⟩ (c_X3_counted l (D := D) (cA := cA) (H0 := H0) (w := k) (hw := by omega) (hN := by omega) (hsa := hsa) (hsb := hsb) (hst := hst) (hsu := by assumption) (hP := hP.sub (ws' := [(qx, .inr (3, [.ref qs, .ref qv, .ref qh, .ref qt])), (qs, .inr (2, [.int (nI N), .ref qal, .ref qbe, .ref qto, .ref qod, .ref qph])), (qal, .inl (cA, 14, .inl al)), (qbe, .inl (cA, 14, .inl be)), (qto, .inl (cA, 14, .inl to)), (qph, .inl (cA, 14, .inl ph)), (qv, .inr (1, [.ref qm])), (qm, .inl (cA, 56, .inl mn)), (qh, .inr (0, [.int bu, .ref qf, .ref ql])), (qf, .inl (cA, 14, .inl fi)), (ql, .inl (cA, 14, .inl la))]) [0, 1, 2, 3, 4, 6, 7, 8, 9, 10, 11] rfl)) (cwV 1 hts gX3_digest_X3_counted rfl rfl rfl (by decide +kernel) ⟨Nat.le_of_ble_eq_true rfl, Nat.le_of_ble_eq_true rfl⟩) (cP_V hK (va_recv hK.1 hP (ci := 3) (q0 := 0) rfl rfl)) rfl rfl hl.1 rfl (lv_room (Nat.le_of_ble_eq_true rfl)) dX3_digest_15 ⟨by omega, by omega⟩) ?_
      refine lv_i2l (v := (couV N al be to ph mn bu fi la k).toInt64) hx hb dX3_digest_18 rfl ?_
      refine RO_go (va_runS (As := [.long y1, .long ((couV N al be to ph mn bu fi la k).toInt64)]) (rest := []) ⟨hx, hb, hml, hown, hts⟩ (c_X3_mixed l (D := D) (cA := cA) (H0 := H0) (a := y1) (b := (couV N al be to ph mn bu fi la k).toInt64)) (va_cwS 2 hts gX3_digest_X3_mixed rfl rfl rfl (by decide +kernel) ⟨Nat.le_of_ble_eq_true rfl, Nat.le_of_ble_eq_true rfl⟩) (cP_S hK) rfl rfl hl.1 rfl (lv_room (Nat.le_of_ble_eq_true rfl)) dX3_digest_19 ⟨by omega, by omega⟩) ?_
      refine lv_lstore_n (lv' := [(1, .long (y1 * 31 + ((couV N al be to ph mn bu fi la k).toInt64))), (3, .int (nI k)), (0, .ref qx)]) hx hb dX3_digest_22 rfl hl (by decide) rfl (fun ls hl => ?_)
      refine lv_iinc (v := nI (k + 1)) (x := nI k) (lv' := [(3, .int (nI (k + 1))), (1, .long (y1 * 31 + ((couV N al be to ph mn bu fi la k).toInt64))), (0, .ref qx)]) hx hb dX3_digest_23 hl (k := 1) rfl (nI_1 k) (by decide) rfl (fun ls hl => ?_)
      refine lv_goto (tgt := 6) hx hb dX3_digest_26 (by decide) ?_
      exact ih6 (k + 1) (y1 * 31 + ((couV N al be to ph mn bu fi la k).toInt64)) (by omega) (by omega) (by subst ey1; first | rfl | simp [mxT, h1]) _ (lv_sub hl [0, 1, 2] rfl)
set_option maxHeartbeats 4000000 in
set_option maxRecDepth 100000 in
theorem c_X3_mean (l : Launch) {D : va_G} {cA : ClassId} {H0 : Heap} {qx qs qv qh qt qal qbe qto qod qph N : Nat} {ph : Nat → Int32}  (hN : N ≤ 14) (hP : va_P D vwCl [(qx, .inr (3, [.ref qs, .ref qv, .ref qh, .ref qt])), (qs, .inr (2, [.int (nI N), .ref qal, .ref qbe, .ref qto, .ref qod, .ref qph])), (qph, .inl (cA, 14, .inl ph))] H0) : RO l yX3_mean wsX3_mean 1 21 [.ref qx] D cA H0 (some (.double (meanV N ph))) := by
  refine RO_of (cc := cX3_mean) (maxL := 4) (ret := (some .double)) (by decide) rfl (Nat.le_of_ble_eq_true rfl) ?_
  intro p e s m below meth c ls hx hb hml hr hown hts hlk hH hK hl
  have hown : s.vm.findClass RX3 = some m.cls := hown
  have hl : lv_has ls 4 [(0, .ref qx)] := hl
  have hinX2 : ∀ w ∈ wsX20, w ∈ wsX3_mean := by decide +kernel
  have hinX3 : ∀ w ∈ wsX30, w ∈ wsX3_mean := by decide +kernel
  refine lv_aload_n hx hb dX3_mean_0 rfl (lv_at hl 0 rfl) ?_
  refine va_get (D := D) (ci := 3) (v := .ref qs) (C := RX3) (T := TX3) (N := 4) hx hb hts hinX3 hown hK.1 hP 0 rfl rfl 0 (by decide) (hts (.fieldLink RX3 10 "CairnShells" "strata" "LCairnShells$Strata;") (by decide +kernel)) (fun _ h9 => h9) rfl dX3_mean_1 ?_
  refine RO_go (va_runV (As := []) (rest := []) ⟨hx, hb, hml, hown, hts⟩ (c_X2_size l (D := D) (cA := cA) (H0 := H0)  (hP := hP.sub (ws' := [(qs, .inr (2, [.int (nI N), .ref qal, .ref qbe, .ref qto, .ref qod, .ref qph]))]) [1] rfl)) (cwV 0 hts gX3_mean_X2_size rfl rfl rfl (by decide +kernel) ⟨Nat.le_of_ble_eq_true rfl, Nat.le_of_ble_eq_true rfl⟩) (cP_V hK (va_recv hK.1 hP (ci := 2) (q0 := 1) rfl rfl)) rfl rfl hl.1 rfl (lv_room (Nat.le_of_ble_eq_true rfl)) dX3_mean_4 ⟨by omega, by omega⟩) ?_
  refine lv_istore_n (lv' := [(1, .int (nI N)), (0, .ref qx)]) hx hb dX3_mean_7 rfl hl (by decide) rfl (fun ls hl => ?_)
  refine lv_iload_n hx hb dX3_mean_8 rfl (lv_at hl 0 rfl) ?_
  refine lv_if_ne (tgt := 14) hx hb dX3_mean_9 (by decide) (fun h1 => ?_) (fun h1 => ?_)
  · refine lv_iconst (v := 0) hx hb dX3_mean_14 (by decide) ?_
    refine lv_istore_n (lv' := [(2, .int 0), (1, .int (nI N)), (0, .ref qx)]) hx hb dX3_mean_15 rfl hl (by decide) rfl (fun ls hl => ?_)
    refine lv_iconst (v := 0) hx hb dX3_mean_16 (by decide) ?_
    refine lv_istore_n (lv' := [(3, .int 0), (2, .int 0), (1, .int (nI N)), (0, .ref qx)]) hx hb dX3_mean_17 rfl hl (by decide) rfl (fun ls hl => ?_)
    suffices loop : ∀ (n k : Nat) (y : Int32), k ≤ N → N < k + n → y = sI ph k → ∀ ls, lv_has ls 4 [(3, .int (nI k)), (2, .int y), (1, .int (nI N)), (0, .ref qx)] → W p l e { frames := 1, cells := 0, slots := 0, locals := 21 } s m ([.ref qx] : List Value).toArray below meth c H0 [] 0 0 (MQ below (roQ (some (.double (meanV N ph))) H0) ([.ref qx] : List Value).toArray s 0 0 (fun _ => False)) (F0 m 18 ls []) from loop (N + 1) 0 0 (by omega) (by omega) (by first | rfl | simp [sI]) _ (lv_sub hl [0, 1, 2, 3] rfl)
    intro n
    induction n with
    | zero => intro k y hk1 hk2; exact absurd hk2 (by omega)
    | succ n ih18 =>
      intro k y hk18 hn18 ey ls hl
      refine lv_iload_n hx hb dX3_mean_18 rfl (lv_at hl 0 rfl) ?_
      refine lv_iload_n hx hb dX3_mean_19 rfl (lv_at hl 2 rfl) ?_
      refine my_geN (x := k) (y := N) (tgt := 40) hx hb dX3_mean_20 (by decide) (by omega) (by omega) (fun h2 => ?_) (fun h2 => ?_)
      · obtain rfl : N = k := by omega
        subst ey
        refine lv_iload_n hx hb dX3_mean_40 rfl (lv_at hl 1 rfl) ?_
        refine lv_i2d hx hb dX3_mean_41 ?_
        refine lv_iload_n hx hb dX3_mean_42 rfl (lv_at hl 2 rfl) ?_
        refine lv_i2d hx hb dX3_mean_43 ?_
        refine lv_ddiv hx hb dX3_mean_44 (nonan _ h1) ?_
        exact RO_dret hx hb hr hlk hH dX3_mean_45 (by first | rfl | simp [meanV, h1, h2])
      · refine lv_iload_n hx hb dX3_mean_23 rfl (lv_at hl 1 rfl) ?_
        refine lv_aload_n hx hb dX3_mean_24 rfl (lv_at hl 3 rfl) ?_
        refine va_get (D := D) (ci := 3) (v := .ref qs) (C := RX3) (T := TX3) (N := 4) hx hb hts hinX3 hown hK.1 hP 0 rfl rfl 0 (by decide) (hts (.fieldLink RX3 10 "CairnShells" "strata" "LCairnShells$Strata;") (by decide +kernel)) (fun _ h9 => h9) rfl dX3_mean_25 ?_
        refine lv_iload_n hx hb dX3_mean_28 rfl (lv_at hl 0 rfl) ?_
        refine RO_go (va_runV (As := [.int (nI k)]) (rest := [.int y]) ⟨hx, hb, hml, hown, hts⟩ (c_X2_phase l (D := D) (cA := cA) (H0 := H0) (j := k) (hj := by omega) (hP := hP.sub (ws' := [(qs, .inr (2, [.int (nI N), .ref qal, .ref qbe, .ref qto, .ref qod, .ref qph])), (qph, .inl (cA, 14, .inl ph))]) [1, 2] rfl)) (cwV 1 hts gX3_mean_X2_phase rfl rfl rfl (by decide +kernel) ⟨Nat.le_of_ble_eq_true rfl, Nat.le_of_ble_eq_true rfl⟩) (cP_V hK (va_recv hK.1 hP (ci := 2) (q0 := 1) rfl rfl)) rfl rfl hl.1 rfl (lv_room (Nat.le_of_ble_eq_true rfl)) dX3_mean_29 ⟨by omega, by omega⟩) ?_
        refine lv_iadd hx hb dX3_mean_32 ?_
        refine lv_istore_n (lv' := [(2, .int (y + (ph k))), (3, .int (nI k)), (1, .int (nI N)), (0, .ref qx)]) hx hb dX3_mean_33 rfl hl (by decide) rfl (fun ls hl => ?_)
        refine lv_iinc (v := nI (k + 1)) (x := nI k) (lv' := [(3, .int (nI (k + 1))), (2, .int (y + (ph k))), (1, .int (nI N)), (0, .ref qx)]) hx hb dX3_mean_34 hl (k := 1) rfl (nI_1 k) (by decide) rfl (fun ls hl => ?_)
        refine lv_goto (tgt := 18) hx hb dX3_mean_37 (by decide) ?_
        exact ih18 (k + 1) (y + (ph k)) (by omega) (by omega) (by subst ey; first | rfl | simp [meanV, sI, h1, h2]) _ (lv_sub hl [0, 1, 2, 3] rfl)
  · refine lv_dconst0 hx hb dX3_mean_12 ?_
    exact RO_dret hx hb hr hlk hH dX3_mean_13 (by first | rfl | simp [meanV, h1])
end
