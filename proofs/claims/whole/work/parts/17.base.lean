/-! methods of the law with a table of their own: they return, whatever the class does -/
abbrev cW (As : List Value) (D : va_G) (cA cL : ClassId) (H0 : Heap) : Array Value → State → Prop := va_Pc As (fun U => U.heap = H0 ∧ KK D cA U ∧ XX H0 U ∧ va_K D vwCl [(cL, .long)] U)
def TW (l : Launch) (y : MethodName) (ws : List Cond) (fr lo mc ms : Nat) (As : List Value) (D : va_G) (cA cL : ClassId) (H0 : Heap) (W : va_W) (P : Option Value → va_W → Prop) : Prop := vx_Met l y ws { frames := fr, cells := mc, slots := ms, locals := lo } (cW As D cA cL H0) (fun a st oc t => rlQ P D W H0 a st oc t) (fun _ _ _ => False) mc ms (va_A W H0.size)
theorem cW_blind {As : List Value} {D : va_G} {cA cL : ClassId} {H0 : Heap} : FrameBlind (cW As D cA cL H0) := fun _ U g mk q => ⟨q.1, q.2.1, q.2.2.1.call, q.2.2.2.1.moved (Vm.Alike.refl U.vm), va_K.moved (u := U) (U := U.calling g mk _) (Vm.Alike.refl U.vm) q.2.2.2.2⟩
theorem cW_S {s : State} {As : List Value} {D : va_G} {cA cL : ClassId} {H : Heap} (hK : KK D cA s) (hX : XX H s) (hL : va_K D vwCl [(cL, .long)] s) : PreS s H (cW As D cA cL H) As := ⟨cW_blind, fun _ hU hW => ⟨rfl, hU, hK.warm hW, hX.moved hW.alike, va_K.moved hW.alike hL⟩⟩
theorem TW_of {l : Launch} {y : MethodName} {ws ws' : List Cond} {fr lo mc ms : Nat} {As : List Value} {D : va_G} {cA cL : ClassId} {H0 : Heap} {W0 : va_W} {P : Option Value → va_W → Prop} {cc : ByteArray} {maxL : Nat} {ret : Option FieldType} {hh : List (Nat × Nat × Nat × Nat)} (hy : plainName y.cls = true) (hw : ws = Cond.codeWith y cc maxL ret hh :: ws') (hlen : (lg_sl As).length ≤ maxL)
    (body : ∀ (p : Program) (e : Env) (s : State) (m : MethodId) (below : List Frame) (meth : Method) (c : Code) (ls : Array Slot), p.tables.exec = Jvm.exec → c.code = cc → c.maxLocals = maxL → meth.sig.returnType = ret → s.vm.findClass y.cls = some m.cls → (∀ w ∈ ws, w.before As.toArray s = true) → meth.locks = false → s.heap = H0 → KK D cA s → XX H0 s → va_K D vwCl [(cL, .long)] s → c.exceptionTable.toList = tableOf hh → lv_has ls maxL (lv_args 0 As) →
      W p l e { frames := fr, cells := mc, slots := ms, locals := lo } s m As.toArray below meth c H0 [] 0 0 (vx_MQ below (fun a st oc t => rlQ P D W0 H0 a st oc t) (fun _ _ _ => False) As.toArray s mc ms (va_A W0 H0.size)) (F0 m 0 ls [])) : TW l y ws fr lo mc ms As D cA cL H0 W0 P := by
  refine vx_ofWH (cc := cc) (maxL := maxL) (ret := ret) (hh := hh) hy hw ?_
  intro p e s m args below meth c s₁ B hml hv
  obtain ⟨rfl, rfl, hK, hX, hL⟩ := hv
  have hts := atoms_spec (ws := ws) B.pre
  rw [lg_entry_eq]
  exact body p e s m below meth c _ B.exec B.bytes hml B.returns (findClass_of_methodNamed B.named) hts B.notSynchronized rfl hK hX hL (vx_table (x := y) B (hts _ (by rw [hw]; exact List.mem_cons_self))) (lv_entry As hlen)
section MYT
variable {p : Program} {l : Launch} {e : Env} {R : Room} {s : State} {m : MethodId} {args : Array Value} {below : List Frame} {meth : Method} {c : Code} {H H0 : Heap} {locs : List Loc} {cells slots : Nat} {Q : State → Prop}
variable {cc : ByteArray} {pc : Nat} {ls : Array Slot} {rest st0 : List Value} {a : Array Value} {D : va_G} {cA : ClassId}
theorem TW_go {A0 : Nat → Prop} {H00 : Heap} {ws W0 wr : va_W} {mc ms : Nat} {P : Option Value → va_W → Prop} (hr : vx_Run p l e R s m args below meth c H locs cells slots mc ms (F0 m pc ls st0) rest (fun st oc t => rlQ P D W0 H a st oc t) (fun _ _ _ => False) (va_A W0 H.size)) (hP : va_P D vwCl ws H) (hD : va_D A0 ws) (hS : va_S A0 H00 H locs) (hA : ∀ q, H00.size ≤ q → A0 q) (isC isR : List Nat) (hC : isC.map (fun i => ws[i]?) = W0.map some) (hR : isR.map (fun i => ws[i]?) = wr.map some) (hn : va_nd isR = true) (hdis : ∀ i ∈ isR, i ∉ isC)
    (kk : ∀ (v : Option Value) (W1 : va_W) (H1 : Heap) (locs1 : List Loc), P v W1 → va_P D vwCl (wr ++ W1) H1 → va_D A0 (wr ++ W1) → va_S A0 H00 H1 locs1 → H.size ≤ H1.size → W p l e R s m args below meth c H1 locs1 (cells + mc) (slots + ms) Q (F0 m (pc + 3) ls (v.toList ++ rest))) : W p l e R s m args below meth c H locs cells slots Q (F0 m pc ls st0) := by
  refine RQ_go (a := a) (mc := mc) (ms := ms) (fun T hT X => ?_) hP hD hS hA isC isR hC hR hn hdis kk
  rcases hr T hT X with ⟨v, st₀, t, T', L, h0, X', hL, e1, e2, hq, st⟩ | ⟨q, st₀, t, T', L, E, ce, h0, X', hL, e1, e2, hN, -⟩
  · exact ⟨v, st₀, t, T', L, h0, X', hL, e1, e2, hq, st⟩
  · exact hN.elim
theorem my_lastN {A : Nat → Prop} {H00 : Heap} {cL : ClassId} (hx : p.tables.exec = Jvm.exec) (hb : c.code = cc) (hL : va_K D vwCl [(cL, .long)] s) {ws : va_W} (hP : va_P D vwCl ws H) (hD : va_D A ws) (hS : va_S A H00 H locs) (q0 : Nat) {ad : Nat} {f : Nat → Int64} (ha : ws[q0]? = some (ad, .inl (cL, 1, .inr (.inl f)))) {x : Int64} (hdg : decode cc pc = .ok (.lastore, 1))
    (kk : ∀ (H1 : Heap) (locs1 : List Loc), va_P D vwCl (ws.set q0 (ad, .inl (cL, 1, .inr (.inl (vp_updL f 0 x))))) H1 → va_D A (ws.set q0 (ad, .inl (cL, 1, .inr (.inl (vp_updL f 0 x))))) → va_S A H00 H1 locs1 → W p l e R s m args below meth c H1 locs1 cells slots Q (F0 m (pc + 1) ls rest)) : W p l e R s m args below meth c H locs cells slots Q (F0 m pc ls (.long x :: .int 0 :: .ref ad :: rest)) :=
  va_last hx hb hL hP hD hS q0 0 ha rfl (i := 0) (by unfold vp_in; decide) hdg kk
theorem my_laldN {cL : ClassId} (hx : p.tables.exec = Jvm.exec) (hb : c.code = cc) (hL : va_K D vwCl [(cL, .long)] s) {ws : va_W} (hP : va_P D vwCl ws H) (q0 : Nat) {ad : Nat} {f : Nat → Int64} (ha : ws[q0]? = some (ad, .inl (cL, 1, .inr (.inl f)))) (hdg : decode cc pc = .ok (.laload, 1))
    (kk : W p l e R s m args below meth c H locs cells slots Q (F0 m (pc + 1) ls (.long (f 0) :: rest))) : W p l e R s m args below meth c H locs cells slots Q (F0 m pc ls (.int 0 :: .ref ad :: rest)) :=
  va_lald hx hb hL hP q0 0 ha rfl (i := 0) (by unfold vp_in; decide) hdg kk
end MYT
