/-! numbers, booleans, what a method's world stands on -/
def bI (b : Bool) : Int32 := if b then 1 else 0
theorem bI_t : bI true = 1 := rfl
theorem bI_f : bI false = 0 := rfl
theorem bI_of {b : Bool} (h : b = true) : (1 : Int32) = bI b := by rw [h]; rfl
theorem bI_no {b : Bool} (h : b = false) : (0 : Int32) = bI b := by rw [h]; rfl
theorem bI_nar (b : Bool) : narrow .boolean (.int (bI b)) = .int (bI b) := by cases b <;> rfl
/-- what else the tables say: constructors of nest mates; the other arrays' classes -/
def KQ (D : va_G) (U : State) : Prop := va_Nw (.methodLinkNest RX3 18 yX1_init "CairnShells") U ∧ va_Nw (.methodLinkNest RX3 9 yX2_init "CairnShells") U ∧ va_K D vwCl [(D.1 10, .boolean), (D.1 11, .array .int), (D.1 12, .array .boolean)] U ∧ va_AOA .int U ∧ va_AOA .boolean U
theorem KQ.warm {D : va_G} {s U : State} (hW : s.WarmedH U.vm) (h : KQ D s) : KQ D U := ⟨va_Nw.warmM hW h.1, va_Nw.warmM hW h.2.1, va_K.moved hW.alike h.2.2.1, va_AOA.warm hW.alike h.2.2.2.1, va_AOA.warm hW.alike h.2.2.2.2⟩
theorem KQ.call {D : va_G} {U : State} {g : JFrame} {mk : MethodId} {a : Array Value} (h : KQ D U) : KQ D (U.calling g mk a) := ⟨va_Nw.same rfl rfl h.1, va_Nw.same rfl rfl h.2.1, va_K.moved (u := U) (U := U.calling g mk a) (Vm.Alike.refl U.vm) h.2.2.1, va_AOA.warm (u := U) (U := U.calling g mk a) (Vm.Alike.refl U.vm) h.2.2.2.1, va_AOA.warm (u := U) (U := U.calling g mk a) (Vm.Alike.refl U.vm) h.2.2.2.2⟩
/-- classes, arrays and nest mates, as the tables have them -/
def KK (D : va_G) (cA : ClassId) (U : State) : Prop := va_K D vwCl [(cA, .int)] U ∧ va_Nw (.methodLinkNest RX0 28 yX3_has "CairnShells") U ∧ va_Nw (.methodLinkNest RX1 15 yX3_has "CairnShells") U ∧ va_Nw (.methodLinkNest RX2 31 yX3_has "CairnShells") U ∧ KQ D U
theorem KK.warm {D : va_G} {cA : ClassId} {s U : State} (hW : s.WarmedH U.vm) (h : KK D cA s) : KK D cA U := ⟨va_K.moved hW.alike h.1, va_Nw.warmM hW h.2.1, va_Nw.warmM hW h.2.2.1, va_Nw.warmM hW h.2.2.2.1, h.2.2.2.2.warm hW⟩
theorem KK.call {D : va_G} {cA : ClassId} {U : State} {g : JFrame} {mk : MethodId} {a : Array Value} (h : KK D cA U) : KK D cA (U.calling g mk a) := ⟨va_K.moved (u := U) (U := U.calling g mk a) (Vm.Alike.refl U.vm) h.1, va_Nw.same rfl rfl h.2.1, va_Nw.same rfl rfl h.2.2.1, va_Nw.same rfl rfl h.2.2.2.1, h.2.2.2.2.call⟩
/-- a method's start: the arguments, the heap as it is, the tables -/
abbrev cP (As : List Value) (D : va_G) (cA : ClassId) (H0 : Heap) : Array Value → State → Prop := va_Pc As (fun U => U.heap = H0 ∧ KK D cA U)
/-- the end of a method that reads: the answer, the heap as it was -/
abbrev roQ (v : Option Value) (H0 : Heap) : Array Value → State → Outcome → State → Prop := fun _ _ oc t => oc = .returned v ∧ t.heap = H0
def RO (l : Launch) (y : MethodName) (ws : List Cond) (fr lo : Nat) (As : List Value) (D : va_G) (cA : ClassId) (H0 : Heap) (v : Option Value) : Prop := Met l y ws { frames := fr, cells := 0, slots := 0, locals := lo } (cP As D cA H0) (roQ v H0) 0 0 (fun _ => False)
/-- the end of a method that writes: the answer, its world W as W', all else that was there as it was -/
abbrev wrQ (v : Option Value) (D : va_G) (W W' : va_W) (H0 : Heap) : Array Value → State → Outcome → State → Prop := fun _ _ oc t => oc = .returned v ∧ va_P D vwCl W' t.heap ∧ H0.size ≤ t.heap.size ∧ ∀ q : Nat, q < H0.size → ¬ va_A W H0.size q → t.heap[q]? = H0[q]?
def WR (l : Launch) (y : MethodName) (ws : List Cond) (fr lo mc ms : Nat) (As : List Value) (D : va_G) (cA : ClassId) (H0 : Heap) (v : Option Value) (W W' : va_W) : Prop := Met l y ws { frames := fr, cells := mc, slots := ms, locals := lo } (cP As D cA H0) (wrQ v D W W' H0) mc ms (va_A W H0.size)
/-- the end of a method of which a relation says the answer and its world -/
abbrev rlQ (P : Option Value → va_W → Prop) (D : va_G) (W : va_W) (H0 : Heap) : Array Value → State → Outcome → State → Prop := fun _ _ oc t => ∃ (v : Option Value) (W1 : va_W), P v W1 ∧ oc = .returned v ∧ va_P D vwCl W1 t.heap ∧ va_D (va_A W H0.size) W1 ∧ H0.size ≤ t.heap.size ∧ ∀ q : Nat, q < H0.size → ¬ va_A W H0.size q → t.heap[q]? = H0[q]?
def RQ (l : Launch) (y : MethodName) (ws : List Cond) (fr lo mc ms : Nat) (As : List Value) (D : va_G) (cA : ClassId) (H0 : Heap) (W : va_W) (P : Option Value → va_W → Prop) : Prop := Met l y ws { frames := fr, cells := mc, slots := ms, locals := lo } (cP As D cA H0) (rlQ P D W H0) mc ms (va_A W H0.size)
theorem cP_blind {As : List Value} {D : va_G} {cA : ClassId} {H0 : Heap} : FrameBlind (cP As D cA H0) := fun _ _ _ _ q => ⟨q.1, q.2.1, q.2.2.call⟩
theorem cP_V {s : State} {As : List Value} {D : va_G} {cA : ClassId} {H : Heap} {C : String} {b : Addr} (hK : KK D cA s) (hr : ∃ cellB : Cell, H[b]? = some cellB ∧ cellB.vm.isStatics = false ∧ s.vm.findClass C = some cellB.cls) : PreV s H C b (cP (.ref b :: As) D cA H) As := ⟨cP_blind, hr, fun _ hU hW => ⟨rfl, hU, hK.warm hW⟩⟩
theorem cP_S {s : State} {As : List Value} {D : va_G} {cA : ClassId} {H : Heap} (hK : KK D cA s) : PreS s H (cP As D cA H) As := ⟨cP_blind, fun _ hU hW => ⟨rfl, hU, hK.warm hW⟩⟩
theorem RO_of {l : Launch} {y : MethodName} {ws ws' : List Cond} {fr lo : Nat} {As : List Value} {D : va_G} {cA : ClassId} {H0 : Heap} {v : Option Value} {cc : ByteArray} {maxL : Nat} {ret : Option FieldType} (hy : plainName y.cls = true) (hw : ws = Cond.code y cc maxL ret :: ws') (hlen : (lg_sl As).length ≤ maxL)
    (body : ∀ (p : Program) (e : Env) (s : State) (m : MethodId) (below : List Frame) (meth : Method) (c : Code) (ls : Array Slot), p.tables.exec = Jvm.exec → c.code = cc → c.maxLocals = maxL → meth.sig.returnType = ret → s.vm.findClass y.cls = some m.cls → (∀ w ∈ ws, w.before As.toArray s = true) → meth.locks = false → s.heap = H0 → KK D cA s → lv_has ls maxL (lv_args 0 As) →
      W p l e { frames := fr, cells := 0, slots := 0, locals := lo } s m As.toArray below meth c H0 [] 0 0 (MQ below (roQ v H0) As.toArray s 0 0 (fun _ => False)) (F0 m 0 ls [])) : RO l y ws fr lo As D cA H0 v := by
  refine Met.ofW (cc := cc) (maxL := maxL) (ret := ret) hy hw ?_
  intro p e s m args below meth c s₁ B hml hv
  obtain ⟨rfl, rfl, hK⟩ := hv
  rw [lg_entry_eq]
  exact body p e s m below meth c _ B.exec B.bytes hml B.returns (findClass_of_methodNamed B.named) (atoms_spec B.pre) B.notSynchronized rfl hK (lv_entry As hlen)
theorem WR_of {l : Launch} {y : MethodName} {ws ws' : List Cond} {fr lo mc ms : Nat} {As : List Value} {D : va_G} {cA : ClassId} {H0 : Heap} {v : Option Value} {W0 W1 : va_W} {cc : ByteArray} {maxL : Nat} {ret : Option FieldType} (hy : plainName y.cls = true) (hw : ws = Cond.code y cc maxL ret :: ws') (hlen : (lg_sl As).length ≤ maxL)
    (body : ∀ (p : Program) (e : Env) (s : State) (m : MethodId) (below : List Frame) (meth : Method) (c : Code) (ls : Array Slot), p.tables.exec = Jvm.exec → c.code = cc → c.maxLocals = maxL → meth.sig.returnType = ret → s.vm.findClass y.cls = some m.cls → (∀ w ∈ ws, w.before As.toArray s = true) → meth.locks = false → (y.name = "<init>" → meth.name = "<init>") → s.heap = H0 → KK D cA s → lv_has ls maxL (lv_args 0 As) →
      W p l e { frames := fr, cells := mc, slots := ms, locals := lo } s m As.toArray below meth c H0 [] 0 0 (MQ below (wrQ v D W0 W1 H0) As.toArray s mc ms (va_A W0 H0.size)) (F0 m 0 ls [])) : WR l y ws fr lo mc ms As D cA H0 v W0 W1 := by
  refine Met.ofW (cc := cc) (maxL := maxL) (ret := ret) hy hw ?_
  intro p e s m args below meth c s₁ B hml hv
  obtain ⟨rfl, rfl, hK⟩ := hv
  rw [lg_entry_eq]
  exact body p e s m below meth c _ B.exec B.bytes hml B.returns (findClass_of_methodNamed B.named) (atoms_spec B.pre) B.notSynchronized (fun h => (name_of_methodNamed B.named B.method).1.trans h) rfl hK (lv_entry As hlen)
theorem RQ_of {l : Launch} {y : MethodName} {ws ws' : List Cond} {fr lo mc ms : Nat} {As : List Value} {D : va_G} {cA : ClassId} {H0 : Heap} {P : Option Value → va_W → Prop} {W0 : va_W} {cc : ByteArray} {maxL : Nat} {ret : Option FieldType} (hy : plainName y.cls = true) (hw : ws = Cond.code y cc maxL ret :: ws') (hlen : (lg_sl As).length ≤ maxL)
    (body : ∀ (p : Program) (e : Env) (s : State) (m : MethodId) (below : List Frame) (meth : Method) (c : Code) (ls : Array Slot), p.tables.exec = Jvm.exec → c.code = cc → c.maxLocals = maxL → meth.sig.returnType = ret → s.vm.findClass y.cls = some m.cls → (∀ w ∈ ws, w.before As.toArray s = true) → meth.locks = false → (y.name = "<init>" → meth.name = "<init>") → s.heap = H0 → KK D cA s → lv_has ls maxL (lv_args 0 As) →
      W p l e { frames := fr, cells := mc, slots := ms, locals := lo } s m As.toArray below meth c H0 [] 0 0 (MQ below (rlQ P D W0 H0) As.toArray s mc ms (va_A W0 H0.size)) (F0 m 0 ls [])) : RQ l y ws fr lo mc ms As D cA H0 W0 P := by
  refine Met.ofW (cc := cc) (maxL := maxL) (ret := ret) hy hw ?_
  intro p e s m args below meth c s₁ B hml hv
  obtain ⟨rfl, rfl, hK⟩ := hv
  rw [lg_entry_eq]
  exact body p e s m below meth c _ B.exec B.bytes hml B.returns (findClass_of_methodNamed B.named) (atoms_spec B.pre) B.notSynchronized (fun h => (name_of_methodNamed B.named B.method).1.trans h) rfl hK (lv_entry As hlen)
section MYW
variable {p : Program} {l : Launch} {e : Env} {R : Room} {s : State} {m : MethodId} {args : Array Value} {below : List Frame} {meth : Method} {c : Code} {H H0 : Heap} {locs : List Loc} {cells slots : Nat} {Q : State → Prop}
variable {cc : ByteArray} {pc : Nat} {ls : Array Slot} {rest st0 : List Value} {a : Array Value} {D : va_G} {cA : ClassId}
theorem RO_zret {r v : Int32} {ty : FieldType} (hx : p.tables.exec = Jvm.exec) (hb : c.code = cc) (hr : meth.sig.returnType = some ty) (hlk : meth.locks = false) (hH : s.heap = H) (hdg : decode cc pc = .ok (.ireturn, 1)) (hn : narrow ty (.int v) = .int v) (e0 : v = r) : W p l e R s m args below meth c H [] 0 0 (MQ below (roQ (some (.int r)) H) args s 0 0 (fun _ => False)) (F0 m pc ls [.int v]) := by
  subst e0
  exact W.zret hx hb hr hn (fun t ht _ => ⟨rfl, ht⟩) (fun q hq => absurd hq List.not_mem_nil) hdg hlk
theorem RO_lret {r v : Int64} (hx : p.tables.exec = Jvm.exec) (hb : c.code = cc) (hr : meth.sig.returnType = some .long) (hlk : meth.locks = false) (hH : s.heap = H) (hdg : decode cc pc = .ok (.lreturn, 1)) (e0 : v = r) : W p l e R s m args below meth c H [] 0 0 (MQ below (roQ (some (.long r)) H) args s 0 0 (fun _ => False)) (F0 m pc ls [.long v]) := by
  subst e0
  exact W.lret hx hb hr (fun t ht _ => ⟨rfl, ht⟩) (fun q hq => absurd hq List.not_mem_nil) hdg hlk
theorem RO_dret {r v : UInt64} (hx : p.tables.exec = Jvm.exec) (hb : c.code = cc) (hr : meth.sig.returnType = some .double) (hlk : meth.locks = false) (hH : s.heap = H) (hdg : decode cc pc = .ok (.dreturn, 1)) (e0 : v = r) : W p l e R s m args below meth c H [] 0 0 (MQ below (roQ (some (.double r)) H) args s 0 0 (fun _ => False)) (F0 m pc ls [.double v]) := by
  subst e0
  exact W.dret hx hb hr (fun t ht _ => ⟨rfl, ht⟩) (fun q hq => absurd hq List.not_mem_nil) hdg hlk
theorem WR_end {W0 W1 : va_W} (hH : s.heap = H0) (hP : va_P D vwCl W1 H) (hS : va_S (va_A W0 H0.size) H0 H locs) {v : Option Value} (t : State) (ht : t.heap = H) (oc : Outcome) (ho : oc = .returned v) : wrQ v D W0 W1 H0 args s oc t := ⟨ho, by rw [ht]; exact hP, by rw [ht]; exact hS.1, fun q h1 h2 => by rw [ht]; exact hS.2.1 q h1 h2⟩
theorem WR_zret {W0 W1 : va_W} {A : Nat → Prop} (hAe : A = va_A W0 H0.size) {mc ms : Nat} {r v : Int32} {ty : FieldType} (hx : p.tables.exec = Jvm.exec) (hb : c.code = cc) (hr : meth.sig.returnType = some ty) (hlk : meth.locks = false) (hH : s.heap = H0) (hdg : decode cc pc = .ok (.ireturn, 1)) (hc : cells ≤ mc) (hs : slots ≤ ms) (hP : va_P D vwCl W1 H) (hS : va_S A H0 H locs) (hn : narrow ty (.int v) = .int v) (e0 : v = r) : W p l e R s m args below meth c H locs cells slots (MQ below (wrQ (some (.int r)) D W0 W1 H0) args s mc ms A) (F0 m pc ls [.int v]) := by
  subst e0
  subst hAe
  exact W.widen hc hs (W.zret hx hb hr hn (fun t ht _ => WR_end hH hP hS t ht _ rfl) hS.2.2 hdg hlk)
theorem WR_lret {W0 W1 : va_W} {A : Nat → Prop} (hAe : A = va_A W0 H0.size) {mc ms : Nat} {r v : Int64} (hx : p.tables.exec = Jvm.exec) (hb : c.code = cc) (hr : meth.sig.returnType = some .long) (hlk : meth.locks = false) (hH : s.heap = H0) (hdg : decode cc pc = .ok (.lreturn, 1)) (hc : cells ≤ mc) (hs : slots ≤ ms) (hP : va_P D vwCl W1 H) (hS : va_S A H0 H locs) (e0 : v = r) : W p l e R s m args below meth c H locs cells slots (MQ below (wrQ (some (.long r)) D W0 W1 H0) args s mc ms A) (F0 m pc ls [.long v]) := by
  subst e0
  subst hAe
  exact W.widen hc hs (W.lret hx hb hr (fun t ht _ => WR_end hH hP hS t ht _ rfl) hS.2.2 hdg hlk)
theorem WR_dret {W0 W1 : va_W} {A : Nat → Prop} (hAe : A = va_A W0 H0.size) {mc ms : Nat} {r v : UInt64} (hx : p.tables.exec = Jvm.exec) (hb : c.code = cc) (hr : meth.sig.returnType = some .double) (hlk : meth.locks = false) (hH : s.heap = H0) (hdg : decode cc pc = .ok (.dreturn, 1)) (hc : cells ≤ mc) (hs : slots ≤ ms) (hP : va_P D vwCl W1 H) (hS : va_S A H0 H locs) (e0 : v = r) : W p l e R s m args below meth c H locs cells slots (MQ below (wrQ (some (.double r)) D W0 W1 H0) args s mc ms A) (F0 m pc ls [.double v]) := by
  subst e0
  subst hAe
  exact W.widen hc hs (W.dret hx hb hr (fun t ht _ => WR_end hH hP hS t ht _ rfl) hS.2.2 hdg hlk)
theorem WR_vret {W0 W1 : va_W} {A : Nat → Prop} (hAe : A = va_A W0 H0.size) {mc ms : Nat} (hx : p.tables.exec = Jvm.exec) (hb : c.code = cc) (hr : meth.sig.returnType = none) (hlk : meth.locks = false) (hH : s.heap = H0) (hdg : decode cc pc = .ok (.return_, 1)) (hc : cells ≤ mc) (hs : slots ≤ ms) (hP : va_P D vwCl W1 H) (hS : va_S A H0 H locs) : W p l e R s m args below meth c H locs cells slots (MQ below (wrQ none D W0 W1 H0) args s mc ms A) (F0 m pc ls []) := by
  subst hAe
  exact W.widen hc hs (W.vret hx hb hr (fun t ht _ => WR_end hH hP hS t ht _ rfl) hS.2.2 hdg hlk)
/-- behind a call that reads: nothing has changed -/
theorem RO_go {v : Value} (hr : va_Run p l e R s m args below meth c H locs cells slots 0 0 (F0 m pc ls st0) rest (roQ (some v) H a) (fun _ => False)) (kk : W p l e R s m args below meth c H locs cells slots Q (F0 m (pc + 3) ls (v :: rest))) : W p l e R s m args below meth c H locs cells slots Q (F0 m pc ls st0) := by
  intro T hT X
  obtain ⟨v', st₀, t, T', L, h0, X', hL, e1, e2, ⟨hv, hp⟩, st⟩ := hr T hT X
  cases hv
  have hL0 : L = [] := by
    cases L with
    | nil => rfl
    | cons x xs => exact absurd (hL x List.mem_cons_self) id
  subst hL0
  rw [List.append_nil] at X'
  obtain ⟨t2, a1, b1⟩ := kk T' (e1.trans hp) X'
  exact ⟨t2, st t2 a1, b1⟩
/-- behind a call that writes: its cells as its end has them, the others as they were -/
theorem WR_go {A0 : Nat → Prop} {H00 : Heap} {ws W0 W1 ws' : va_W} {mc ms : Nat} {v : Option Value} (hr : va_Run p l e R s m args below meth c H locs cells slots mc ms (F0 m pc ls st0) rest (wrQ v D W0 W1 H a) (va_A W0 H.size)) (hP : va_P D vwCl ws H) (hD : va_D A0 ws) (hS : va_S A0 H00 H locs) (hA : ∀ q, H00.size ≤ q → A0 q) (isC isR : List Nat) (hC : isC.map (fun i => ws[i]?) = W0.map some) (hn : va_nd isR = true) (hdis : ∀ i ∈ isR, i ∉ isC)
    (perm : List Nat) (hsub : perm.filterMap (fun i => ((isR.filterMap (fun i => ws[i]?)) ++ W1)[i]?) = ws')
    (kk : ∀ (H1 : Heap) (locs1 : List Loc), va_P D vwCl ws' H1 → va_S A0 H00 H1 locs1 → H.size ≤ H1.size → W p l e R s m args below meth c H1 locs1 (cells + mc) (slots + ms) Q (F0 m (pc + 3) ls (v.toList ++ rest))) : W p l e R s m args below meth c H locs cells slots Q (F0 m pc ls st0) := by
  intro T hT X
  obtain ⟨v', st₀, t, T', L, h0, X', hL, e1, e2, ⟨hv, hp, hz, hk⟩, st⟩ := hr T hT X
  cases hv
  have hF := va_free (wc := W0) hD hS hA isC hC
  have hS1 : va_S A0 H00 T'.heap (locs ++ L) := ⟨Nat.le_trans hS.1 (by rw [e1]; exact hz), fun q h1 h2 => by rw [e1, hk q (Nat.lt_of_lt_of_le h1 hS.1) (fun z => h2 (hF q z))]; exact hS.2.1 q h1 h2, fun q hq => by
      rcases List.mem_append.mp hq with h | h
      · exact hS.2.2 q h
      · exact hF _ (hL q h)⟩
  have hR : ∀ (k : Nat) (q : Nat × va_E), (isR.filterMap (fun i => ws[i]?))[k]? = some q → ∃ i ∈ isR, ws[i]? = some q := by
    intro k q hq
    obtain ⟨i, h1, h2⟩ := List.mem_filterMap.mp (List.mem_of_getElem? hq)
    exact ⟨i, h1, h2⟩
  have hP1 : va_P D vwCl (isR.filterMap (fun i => ws[i]?)) T'.heap := by
    intro k q hq
    obtain ⟨i, hi, h2⟩ := hR k q hq
    refine (hP i q h2).kept ?_
    rw [e1]
    refine hk q.1 (hP i q h2).lt (fun h => ?_)
    rcases h with ⟨k2, e9, h⟩ | h
    · have h1 : (isC.map (fun i => ws[i]?))[k2]? = some (some (q.1, e9)) := by rw [hC, List.getElem?_map, h]; rfl
      rw [List.getElem?_map] at h1
      cases hj : isC[k2]? with
      | none => rw [hj] at h1; cases h1
      | some j =>
        rw [hj] at h1
        have h4 := Option.some.inj h1
        have hij := hD.1 i j q (q.1, e9) h2 h4 rfl
        subst hij
        exact hdis i hi (List.mem_of_getElem? hj)
    · exact absurd (hP i q h2).lt (by omega)
  obtain ⟨t2, a1, b1⟩ := kk T'.heap (locs ++ L) ((va_P.app hP1 (by rw [e1]; exact hp)).sub perm hsub) hS1 (by rw [e1]; exact hz) T' rfl X'
  exact ⟨t2, st t2 a1, b1⟩
theorem va_D.adr {A : Nat → Prop} {ws ws' : va_W} (h : va_D A ws) (e : ws'.map (fun q => q.1) = ws.map (fun q => q.1)) : va_D A ws' := by
  have key : ∀ (i : Nat) (p : Nat × va_E), ws'[i]? = some p → ∃ p2, ws[i]? = some p2 ∧ p2.1 = p.1 := by
    intro i p hp
    have h1 : (ws'.map (fun q => q.1))[i]? = some p.1 := by rw [List.getElem?_map, hp]; rfl
    rw [e, List.getElem?_map] at h1
    cases hw : ws[i]? with
    | none => rw [hw] at h1; cases h1
    | some x => rw [hw] at h1; exact ⟨x, rfl, Option.some.inj h1⟩
  refine ⟨fun i j p q hp hq hpq => ?_, fun k q hq => ?_⟩
  · obtain ⟨p2, a1, a2⟩ := key i p hp
    obtain ⟨q2, b1, b2⟩ := key j q hq
    exact h.1 i j p2 q2 a1 b1 (by rw [a2, b2, hpq])
  · obtain ⟨q2, b1, b2⟩ := key k q hq
    rw [← b2]
    exact h.2 k q2 b1
/-- branches over booleans and over small numbers -/
theorem my_ifeq_b {b : Bool} {off : Int} {tgt : Nat} (hx : p.tables.exec = Jvm.exec) (hb : c.code = cc) (hdg : decode cc pc = .ok (.ifCond .eq off, 3)) (ht : (pc : Int) + off = (tgt : Int)) (kt : b = false → W p l e R s m args below meth c H locs cells slots Q (F0 m tgt ls rest)) (kf : b = true → W p l e R s m args below meth c H locs cells slots Q (F0 m (pc + 3) ls rest)) : W p l e R s m args below meth c H locs cells slots Q (F0 m pc ls (.int (bI b) :: rest)) :=
  lv_if_eq hx hb hdg ht (fun h => kt (by cases b with | false => rfl | true => exact absurd h (by decide))) (fun h => kf (by cases b with | true => rfl | false => exact absurd rfl h))
theorem my_ifne_b {b : Bool} {off : Int} {tgt : Nat} (hx : p.tables.exec = Jvm.exec) (hb : c.code = cc) (hdg : decode cc pc = .ok (.ifCond .ne off, 3)) (ht : (pc : Int) + off = (tgt : Int)) (kt : b = true → W p l e R s m args below meth c H locs cells slots Q (F0 m tgt ls rest)) (kf : b = false → W p l e R s m args below meth c H locs cells slots Q (F0 m (pc + 3) ls rest)) : W p l e R s m args below meth c H locs cells slots Q (F0 m pc ls (.int (bI b) :: rest)) :=
  lv_if_ne hx hb hdg ht (fun h => kt (by cases b with | true => rfl | false => exact absurd rfl h)) (fun h => kf (by cases b with | false => rfl | true => exact absurd h (by decide)))
theorem my_geN {x y : Nat} {off : Int} {tgt : Nat} (hx : p.tables.exec = Jvm.exec) (hb : c.code = cc) (hdg : decode cc pc = .ok (.if_icmp .ge off, 3)) (ht : (pc : Int) + off = (tgt : Int)) (h1 : x < 2 ^ 31) (h2 : y < 2 ^ 31) (kt : y ≤ x → W p l e R s m args below meth c H locs cells slots Q (F0 m tgt ls rest)) (kf : x < y → W p l e R s m args below meth c H locs cells slots Q (F0 m (pc + 3) ls rest)) : W p l e R s m args below meth c H locs cells slots Q (F0 m pc ls (.int (nI y) :: .int (nI x) :: rest)) :=
  lv_icmp_ge hx hb hdg ht (fun h => kt ((nI_leI h2 h1).mp h)) (fun h => kf (Nat.lt_of_not_le (fun q => h ((nI_leI h2 h1).mpr q))))
theorem my_gtN {x y : Nat} {off : Int} {tgt : Nat} (hx : p.tables.exec = Jvm.exec) (hb : c.code = cc) (hdg : decode cc pc = .ok (.if_icmp .gt off, 3)) (ht : (pc : Int) + off = (tgt : Int)) (h1 : x < 2 ^ 31) (h2 : y < 2 ^ 31) (kt : y < x → W p l e R s m args below meth c H locs cells slots Q (F0 m tgt ls rest)) (kf : x ≤ y → W p l e R s m args below meth c H locs cells slots Q (F0 m (pc + 3) ls rest)) : W p l e R s m args below meth c H locs cells slots Q (F0 m pc ls (.int (nI y) :: .int (nI x) :: rest)) :=
  lv_icmp_gt hx hb hdg ht (fun h => kt ((nI_ltI h2 h1).mp h)) (fun h => kf (Nat.le_of_not_lt (fun q => h ((nI_ltI h2 h1).mpr q))))
theorem my_ltN {x y : Nat} {off : Int} {tgt : Nat} (hx : p.tables.exec = Jvm.exec) (hb : c.code = cc) (hdg : decode cc pc = .ok (.if_icmp .lt off, 3)) (ht : (pc : Int) + off = (tgt : Int)) (h1 : x < 2 ^ 31) (h2 : y < 2 ^ 31) (kt : x < y → W p l e R s m args below meth c H locs cells slots Q (F0 m tgt ls rest)) (kf : y ≤ x → W p l e R s m args below meth c H locs cells slots Q (F0 m (pc + 3) ls rest)) : W p l e R s m args below meth c H locs cells slots Q (F0 m pc ls (.int (nI y) :: .int (nI x) :: rest)) :=
  lv_icmp_lt hx hb hdg ht (fun h => kt ((nI_ltI h1 h2).mp h)) (fun h => kf (Nat.le_of_not_lt (fun q => h ((nI_ltI h1 h2).mpr q))))
theorem my_neN {x y : Nat} {off : Int} {tgt : Nat} (hx : p.tables.exec = Jvm.exec) (hb : c.code = cc) (hdg : decode cc pc = .ok (.if_icmp .ne off, 3)) (ht : (pc : Int) + off = (tgt : Int)) (h1 : x < 2 ^ 31) (h2 : y < 2 ^ 31) (kt : ¬ x = y → W p l e R s m args below meth c H locs cells slots Q (F0 m tgt ls rest)) (kf : x = y → W p l e R s m args below meth c H locs cells slots Q (F0 m (pc + 3) ls rest)) : W p l e R s m args below meth c H locs cells slots Q (F0 m pc ls (.int (nI y) :: .int (nI x) :: rest)) :=
  lv_icmp_ne hx hb hdg ht (fun h => kt (fun q => h (by rw [q]))) (fun h => kf ((nI_eq h1 h2).mp h))
theorem my_iald (hx : p.tables.exec = Jvm.exec) (hb : c.code = cc) (hK : KK D cA s) {ws : va_W} (hP : va_P D vwCl ws H) (q0 : Nat) {ad n : Nat} {f : Nat → Int32} (ha : ws[q0]? = some (ad, .inl (cA, n, .inl f))) {j : Nat} (hj : j < n) (hn : n < 2 ^ 31) (hdg : decode cc pc = .ok (.iaload, 1)) (kk : W p l e R s m args below meth c H locs cells slots Q (F0 m (pc + 1) ls (.int (f j) :: rest))) : W p l e R s m args below meth c H locs cells slots Q (F0 m pc ls (.int (nI j) :: .ref ad :: rest)) := by
  refine va_iald hx hb hK.1 hP q0 0 ha rfl (vp_in_nI hj hn) hdg ?_
  rw [nI_clamp (Nat.lt_trans hj hn)]
  exact kk
theorem my_iast {A : Nat → Prop} {H00 : Heap} (hx : p.tables.exec = Jvm.exec) (hb : c.code = cc) (hK : KK D cA s) {ws : va_W} (hP : va_P D vwCl ws H) (hD : va_D A ws) (hS : va_S A H00 H locs) (q0 : Nat) {ad n : Nat} {f : Nat → Int32} (ha : ws[q0]? = some (ad, .inl (cA, n, .inl f))) {j : Nat} {x : Int32} (hj : j < n) (hn : n < 2 ^ 31) (hdg : decode cc pc = .ok (.iastore, 1))
    (kk : ∀ (H1 : Heap) (locs1 : List Loc), va_P D vwCl (ws.set q0 (ad, .inl (cA, n, .inl (upd f j x)))) H1 → va_D A (ws.set q0 (ad, .inl (cA, n, .inl (upd f j x)))) → va_S A H00 H1 locs1 → W p l e R s m args below meth c H1 locs1 cells slots Q (F0 m (pc + 1) ls rest)) : W p l e R s m args below meth c H locs cells slots Q (F0 m pc ls (.int x :: .int (nI j) :: .ref ad :: rest)) := by
  refine va_iast hx hb hK.1 hP hD hS q0 0 ha rfl (vp_in_nI hj hn) hdg ?_
  rw [nI_clamp (Nat.lt_trans hj hn)]
  exact kk
theorem my_iaddN {x y : Nat} (hx : p.tables.exec = Jvm.exec) (hb : c.code = cc) (hdg : decode cc pc = .ok (.iadd, 1)) (kk : W p l e R s m args below meth c H locs cells slots Q (F0 m (pc + 1) ls (.int (nI (x + y)) :: rest))) : W p l e R s m args below meth c H locs cells slots Q (F0 m pc ls (.int (nI y) :: .int (nI x) :: rest)) :=
  lv_iadd hx hb hdg (by rw [nI_add]; exact kk)
theorem my_imulN {x y : Nat} (hx : p.tables.exec = Jvm.exec) (hb : c.code = cc) (hdg : decode cc pc = .ok (.imul, 1)) (kk : W p l e R s m args below meth c H locs cells slots Q (F0 m (pc + 1) ls (.int (nI (x * y)) :: rest))) : W p l e R s m args below meth c H locs cells slots Q (F0 m pc ls (.int (nI y) :: .int (nI x) :: rest)) :=
  lv_imul hx hb hdg (by rw [pk_mul]; exact kk)
theorem my_isubN {x y : Nat} (hx : p.tables.exec = Jvm.exec) (hb : c.code = cc) (hdg : decode cc pc = .ok (.isub, 1)) (h : y ≤ x) (kk : W p l e R s m args below meth c H locs cells slots Q (F0 m (pc + 1) ls (.int (nI (x - y)) :: rest))) : W p l e R s m args below meth c H locs cells slots Q (F0 m pc ls (.int (nI y) :: .int (nI x) :: rest)) :=
  lv_isub hx hb hdg (by rw [pk_sub h]; exact kk)
theorem my_newa {A : Nat → Prop} {H00 : Heap} {ws : va_W} (hx : p.tables.exec = Jvm.exec) (hb : c.code = cc) (harr : (Cond.arrayClass .int).before args s = true) (hK : KK D cA s) (hP : va_P D vwCl ws H) (hD : va_D A ws) (hS : va_S A H00 H locs) (hA : ∀ q, H00.size ≤ q → A q) {n : Int32} {N' : Nat} (hn : ¬ n < 0) (hN : n.toNatClampNeg = N') (hbytes : N' * 4 ≤ 536870912) (hcells : cells + 1 ≤ R.cells) (hslots : slots + N' ≤ R.slots) (hdg : decode cc pc = .ok (.newarray .int, 2))
    (kk : ∀ (q : Nat) (H1 : Heap), va_P D vwCl (ws ++ [(q, .inl (cA, N', .inl (fun _ => 0)))]) H1 → va_D A (ws ++ [(q, .inl (cA, N', .inl (fun _ => 0)))]) → va_S A H00 H1 locs → H.size ≤ q → W p l e R s m args below meth c H1 locs (cells + 1) (slots + N') Q (F0 m (pc + 2) ls (.ref q :: rest))) : W p l e R s m args below meth c H locs cells slots Q (F0 m pc ls (.int n :: rest)) := by
  refine va_newaK (atype := .int) hx hb harr rfl hdg rfl hn hN hbytes hcells hslots rfl fun H1 cB e1 z1 o1 hAr hNm => ?_
  have hcB : cB = cA := by
    have h1 : s.vm.findClass ("[" ++ FieldType.int.toString) = some cA := (hK.1.2 0 (cA, .int) rfl).2
    exact Option.some.inj (hNm.symm.trans h1)
  subst hcB
  have hk : ∀ (k : Nat) (x : Nat × va_E), ws[k]? = some x → H1[x.1]? = H[x.1]? := fun k x hx9 => o1 x.1 ((hP k x hx9).lt)
  refine kk H.size H1 ((hP.kept hk).app (fun k x hx9 => ?_)) (hD.push hP rfl (hA _ hS.1)) ⟨Nat.le_trans hS.1 (by omega), fun x h1 h2 => (o1 x (Nat.lt_of_lt_of_le h1 hS.1)).trans (hS.2.1 x h1 h2), hS.2.2⟩ (Nat.le_refl _)
  have hz : k < 1 := (List.getElem?_eq_some_iff.mp hx9).1
  rw [show k = 0 by omega] at hx9
  cases hx9
  exact e1
/-- behind a call of which a relation says the answer and the cells -/
theorem RQ_go {A0 : Nat → Prop} {H00 : Heap} {ws W0 wr : va_W} {mc ms : Nat} {P : Option Value → va_W → Prop} (hr : va_Run p l e R s m args below meth c H locs cells slots mc ms (F0 m pc ls st0) rest (rlQ P D W0 H a) (va_A W0 H.size)) (hP : va_P D vwCl ws H) (hD : va_D A0 ws) (hS : va_S A0 H00 H locs) (hA : ∀ q, H00.size ≤ q → A0 q) (isC isR : List Nat) (hC : isC.map (fun i => ws[i]?) = W0.map some) (hR : isR.map (fun i => ws[i]?) = wr.map some) (hn : va_nd isR = true) (hdis : ∀ i ∈ isR, i ∉ isC)
    (kk : ∀ (v : Option Value) (W1 : va_W) (H1 : Heap) (locs1 : List Loc), P v W1 → va_P D vwCl (wr ++ W1) H1 → va_D A0 (wr ++ W1) → va_S A0 H00 H1 locs1 → H.size ≤ H1.size → W p l e R s m args below meth c H1 locs1 (cells + mc) (slots + ms) Q (F0 m (pc + 3) ls (v.toList ++ rest))) : W p l e R s m args below meth c H locs cells slots Q (F0 m pc ls st0) := by
  intro T hT X
  obtain ⟨v', st₀, t, T', L, h0, X', hL, e1, e2, ⟨v, W1, hp9, hv, hp, hd, hz, hk⟩, st⟩ := hr T hT X
  cases hv
  have hF := va_free (wc := W0) hD hS hA isC hC
  have hS1 : va_S A0 H00 T'.heap (locs ++ L) := ⟨Nat.le_trans hS.1 (by rw [e1]; exact hz), fun q h1 h2 => by rw [e1, hk q (Nat.lt_of_lt_of_le h1 hS.1) (fun z => h2 (hF q z))]; exact hS.2.1 q h1 h2, fun q hq => by
      rcases List.mem_append.mp hq with h | h
      · exact hS.2.2 q h
      · exact hF _ (hL q h)⟩
  obtain ⟨j1, j2⟩ := va_join (H1 := T'.heap) hP hD isC isR hC hR hn hdis (fun q h1 h2 => by rw [e1]; exact hk q h1 h2) hF (by rw [e1]; exact hp) hd
  obtain ⟨t2, a1, b1⟩ := kk v' W1 T'.heap (locs ++ L) hp9 j1 j2 hS1 (by rw [e1]; exact hz) T' rfl X'
  exact ⟨t2, st t2 a1, b1⟩
theorem RQ_end {W0 W1 : va_W} {P : Option Value → va_W → Prop} {v : Option Value} (hp : P v W1) (hP : va_P D vwCl W1 H) (hD : va_D (va_A W0 H0.size) W1) (hS : va_S (va_A W0 H0.size) H0 H locs) (t : State) (ht : t.heap = H) (oc : Outcome) (ho : oc = .returned v) : rlQ P D W0 H0 args s oc t := ⟨v, W1, hp, ho, by rw [ht]; exact hP, hD, by rw [ht]; exact hS.1, fun q h1 h2 => by rw [ht]; exact hS.2.1 q h1 h2⟩
theorem RQ_zret {W0 W1 : va_W} {P : Option Value → va_W → Prop} {A : Nat → Prop} (hAe : A = va_A W0 H0.size) {mc ms : Nat} {v : Int32} {ty : FieldType} (hx : p.tables.exec = Jvm.exec) (hb : c.code = cc) (hr : meth.sig.returnType = some ty) (hlk : meth.locks = false) (hH : s.heap = H0) (hdg : decode cc pc = .ok (.ireturn, 1)) (hc : cells ≤ mc) (hs : slots ≤ ms) (hp : P (some (.int v)) W1) (hP : va_P D vwCl W1 H) (hD : va_D A W1) (hS : va_S A H0 H locs) (hn : narrow ty (.int v) = .int v) : W p l e R s m args below meth c H locs cells slots (MQ below (rlQ P D W0 H0) args s mc ms A) (F0 m pc ls [.int v]) := by
  subst hAe
  exact W.widen hc hs (W.zret hx hb hr hn (fun t ht _ => RQ_end hp hP hD hS t ht _ rfl) hS.2.2 hdg hlk)
theorem RQ_lret {W0 W1 : va_W} {P : Option Value → va_W → Prop} {A : Nat → Prop} (hAe : A = va_A W0 H0.size) {mc ms : Nat} {v : Int64} (hx : p.tables.exec = Jvm.exec) (hb : c.code = cc) (hr : meth.sig.returnType = some .long) (hlk : meth.locks = false) (hH : s.heap = H0) (hdg : decode cc pc = .ok (.lreturn, 1)) (hc : cells ≤ mc) (hs : slots ≤ ms) (hp : P (some (.long v)) W1) (hP : va_P D vwCl W1 H) (hD : va_D A W1) (hS : va_S A H0 H locs) : W p l e R s m args below meth c H locs cells slots (MQ below (rlQ P D W0 H0) args s mc ms A) (F0 m pc ls [.long v]) := by
  subst hAe
  exact W.widen hc hs (W.lret hx hb hr (fun t ht _ => RQ_end hp hP hD hS t ht _ rfl) hS.2.2 hdg hlk)
theorem RQ_dret {W0 W1 : va_W} {P : Option Value → va_W → Prop} {A : Nat → Prop} (hAe : A = va_A W0 H0.size) {mc ms : Nat} {v : UInt64} (hx : p.tables.exec = Jvm.exec) (hb : c.code = cc) (hr : meth.sig.returnType = some .double) (hlk : meth.locks = false) (hH : s.heap = H0) (hdg : decode cc pc = .ok (.dreturn, 1)) (hc : cells ≤ mc) (hs : slots ≤ ms) (hp : P (some (.double v)) W1) (hP : va_P D vwCl W1 H) (hD : va_D A W1) (hS : va_S A H0 H locs) : W p l e R s m args below meth c H locs cells slots (MQ below (rlQ P D W0 H0) args s mc ms A) (F0 m pc ls [.double v]) := by
  subst hAe
  exact W.widen hc hs (W.dret hx hb hr (fun t ht _ => RQ_end hp hP hD hS t ht _ rfl) hS.2.2 hdg hlk)
theorem RQ_vret {W0 W1 : va_W} {P : Option Value → va_W → Prop} {A : Nat → Prop} (hAe : A = va_A W0 H0.size) {mc ms : Nat} (hx : p.tables.exec = Jvm.exec) (hb : c.code = cc) (hr : meth.sig.returnType = none) (hlk : meth.locks = false) (hH : s.heap = H0) (hdg : decode cc pc = .ok (.return_, 1)) (hc : cells ≤ mc) (hs : slots ≤ ms) (hp : P none W1) (hP : va_P D vwCl W1 H) (hD : va_D A W1) (hS : va_S A H0 H locs) : W p l e R s m args below meth c H locs cells slots (MQ below (rlQ P D W0 H0) args s mc ms A) (F0 m pc ls []) := by
  subst hAe
  exact W.widen hc hs (W.vret hx hb hr (fun t ht _ => RQ_end hp hP hD hS t ht _ rfl) hS.2.2 hdg hlk)
theorem RQ_aret {W0 W1 : va_W} {P : Option Value → va_W → Prop} {A : Nat → Prop} (hAe : A = va_A W0 H0.size) {mc ms : Nat} {q : Nat} (hx : p.tables.exec = Jvm.exec) (hb : c.code = cc) {rt : FieldType} (hr : meth.sig.returnType = some (.array rt)) (hlk : meth.locks = false) (hH : s.heap = H0) (hdg : decode cc pc = .ok (.areturn, 1)) (hc : cells ≤ mc) (hs : slots ≤ ms) (hp : P (some (.ref q)) W1) (hP : va_P D vwCl W1 H) (hD : va_D A W1) (hS : va_S A H0 H locs) : W p l e R s m args below meth c H locs cells slots (MQ below (rlQ P D W0 H0) args s mc ms A) (F0 m pc ls [.ref q]) := by
  subst hAe
  exact W.widen hc hs (W.aret hx hb hr (Or.inr ⟨_, rfl⟩) (Or.inr ⟨_, rfl⟩) (fun t ht _ => RQ_end hp hP hD hS t ht _ rfl) hS.2.2 hdg hlk)
end MYW
