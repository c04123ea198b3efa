/-! facts of single cells, what is kept of a heap, contracts that say anything of the heap behind them -/
abbrev AT (D : va_G) (a : Nat) (e : va_E) (H : Heap) : Prop := va_at D vwCl (a, e) H
theorem AT.one {D : va_G} {a : Nat} {e : va_E} {H : Heap} (h : AT D a e H) : va_P D vwCl [(a, e)] H := fun k q hq => by
  have hz : k < 1 := (List.getElem?_eq_some_iff.mp hq).1
  rw [show k = 0 by omega] at hq
  cases hq
  exact h
theorem AT.lt {D : va_G} {a : Nat} {e : va_E} {H : Heap} (h : AT D a e H) : a < H.size := va_at.lt (q := (a, e)) h
/-- H has all that H0 had, but where B -/
def KP (B : Nat → Prop) (H0 H : Heap) : Prop := H0.size ≤ H.size ∧ ∀ q : Nat, q < H0.size → ¬ B q → H[q]? = H0[q]?
theorem KP.rf {B : Nat → Prop} {H : Heap} : KP B H H := ⟨Nat.le_refl _, fun _ _ _ => rfl⟩
theorem KP.trans {B : Nat → Prop} {H0 H1 H2 : Heap} (h : KP B H0 H1) (h2 : KP B H1 H2) : KP B H0 H2 := ⟨Nat.le_trans h.1 h2.1, fun q a b => (h2.2 q (Nat.lt_of_lt_of_le a h.1) b).trans (h.2 q a b)⟩
theorem KP.weak {B C : Nat → Prop} {H0 H1 : Heap} (h : KP B H0 H1) (w : ∀ q, q < H0.size → B q → C q) : KP C H0 H1 := ⟨h.1, fun q a b => h.2 q a (fun c => b (w q a c))⟩
theorem KP.at {B : Nat → Prop} {H0 H1 : Heap} (k : KP B H0 H1) {D : va_G} {a : Nat} {e : va_E} (h : AT D a e H0) (hb : ¬ B a) : AT D a e H1 := va_at.kept (q := (a, e)) h (k.2 a h.lt hb)
theorem KP.P {B : Nat → Prop} {H0 H1 : Heap} (k : KP B H0 H1) {D : va_G} {ws : va_W} (h : va_P D vwCl ws H0) (hb : ∀ (i : Nat) (q : Nat × va_E), ws[i]? = some q → ¬ B q.1) : va_P D vwCl ws H1 := h.kept (fun i q hq => k.2 q.1 ((h i q hq).lt) (hb i q hq))
theorem va_S.kp {A : Nat → Prop} {H0 H : Heap} {locs : List Loc} (h : va_S A H0 H locs) : KP A H0 H := ⟨h.1, h.2.1⟩
/-- nothing that was there has changed -/
abbrev EX (H0 H : Heap) : Prop := KP (fun _ => False) H0 H
theorem EX.at {H0 H1 : Heap} (k : EX H0 H1) {D : va_G} {a : Nat} {e : va_E} (h : AT D a e H0) : AT D a e H1 := KP.at k h id
theorem EX.P {H0 H1 : Heap} (k : EX H0 H1) {D : va_G} {ws : va_W} (h : va_P D vwCl ws H0) : va_P D vwCl ws H1 := KP.P k h (fun _ _ _ => id)
theorem KP.ex {B : Nat → Prop} {H0 H1 : Heap} (k : KP B H0 H1) (hb : ∀ q, B q → H0.size ≤ q) : EX H0 H1 := KP.weak k (fun q a b => absurd (hb q b) (Nat.not_le.mpr a))
theorem EX.kp {B : Nat → Prop} {H0 H1 : Heap} (k : EX H0 H1) : KP B H0 H1 := KP.weak k (fun _ _ h => h.elim)
/-- an array's cell is what is in its places, no more -/
theorem at_cong {D : va_G} {a n : Nat} {c : ClassId} {f g : Nat → Int32} {H : Heap} (h : AT D a (.inl (c, n, .inl f)) H) (e : ∀ j, j < n → f j = g j) : AT D a (.inl (c, n, .inl g)) H := by
  have h1 : H[a]? = some (vp_cell c (n, .inl f)) := h
  have h2 : vp_cell c (n, .inl f) = vp_cell c (n, .inl g) := by
    rw [vp_cell_i, vp_cell_i]
    unfold arrV
    congr 1
    apply Array.ext
    · simp
    · intro i h1 h2
      have hi : i < n := by simpa using h1
      simp [e i hi]
  show H[a]? = some (vp_cell c (n, .inl g))
  rw [h1, h2]
theorem at_congq {D : va_G} {a n : Nat} {c : ClassId} {f g : Nat → Option Nat} {H : Heap} (h : AT D a (.inl (c, n, .inr (.inr (.inr (.inr f))))) H) (e : ∀ j, j < n → f j = g j) : AT D a (.inl (c, n, .inr (.inr (.inr (.inr g))))) H := by
  have h1 : H[a]? = some (vp_cell c (n, .inr (.inr (.inr (.inr f))))) := h
  have h2 : vp_cell c (n, .inr (.inr (.inr (.inr f)))) = vp_cell c (n, .inr (.inr (.inr (.inr g)))) := by
    rw [vp_cell_q, vp_cell_q]
    unfold arrV
    congr 1
    apply Array.ext
    · simp
    · intro i h1 h2
      have hi : i < n := by simpa using h1
      simp [e i hi]
  show H[a]? = some (vp_cell c (n, .inr (.inr (.inr (.inr g)))))
  rw [h1, h2]
/-- the end of a method of which a relation says the answer and the heap -/
abbrev lqQ (P : Option Value → Heap → Prop) (A : Nat → Prop) (H0 : Heap) : Array Value → State → Outcome → State → Prop := fun _ _ oc t => ∃ v : Option Value, P v t.heap ∧ oc = .returned v ∧ KP A H0 t.heap
def LQ (l : Launch) (y : MethodName) (ws : List Cond) (fr lo mc ms : Nat) (As : List Value) (D : va_G) (cA : ClassId) (H0 : Heap) (A : Nat → Prop) (P : Option Value → Heap → Prop) : Prop := Met l y ws { frames := fr, cells := mc, slots := ms, locals := lo } (cP As D cA H0) (lqQ P A H0) mc ms A
theorem LQ_of {l : Launch} {y : MethodName} {ws ws' : List Cond} {fr lo mc ms : Nat} {As : List Value} {D : va_G} {cA : ClassId} {H0 : Heap} {A : Nat → Prop} {P : Option Value → Heap → Prop} {cc : ByteArray} {maxL : Nat} {ret : Option FieldType} (hy : plainName y.cls = true) (hw : ws = Cond.code y cc maxL ret :: ws') (hlen : (lg_sl As).length ≤ maxL)
    (body : ∀ (p : Program) (e : Env) (s : State) (m : MethodId) (below : List Frame) (meth : Method) (c : Code) (ls : Array Slot), p.tables.exec = Jvm.exec → c.code = cc → c.maxLocals = maxL → meth.sig.returnType = ret → s.vm.findClass y.cls = some m.cls → (∀ w ∈ ws, w.before As.toArray s = true) → meth.locks = false → s.heap = H0 → KK D cA s → lv_has ls maxL (lv_args 0 As) →
      W p l e { frames := fr, cells := mc, slots := ms, locals := lo } s m As.toArray below meth c H0 [] 0 0 (MQ below (lqQ P A H0) As.toArray s mc ms A) (F0 m 0 ls [])) : LQ l y ws fr lo mc ms As D cA H0 A P := by
  refine Met.ofW (cc := cc) (maxL := maxL) (ret := ret) hy hw ?_
  intro p e s m args below meth c s₁ B hml hv
  obtain ⟨rfl, rfl, hK⟩ := hv
  rw [lg_entry_eq]
  exact body p e s m below meth c _ B.exec B.bytes hml B.returns (findClass_of_methodNamed B.named) (atoms_spec B.pre) B.notSynchronized rfl hK (lv_entry As hlen)
section MYR
variable {p : Program} {l : Launch} {e : Env} {R : Room} {s : State} {m : MethodId} {args : Array Value} {below : List Frame} {meth : Method} {c : Code} {H H0 : Heap} {locs : List Loc} {cells slots : Nat} {Q : State → Prop}
variable {cc : ByteArray} {pc : Nat} {ls : Array Slot} {rest st0 : List Value} {a : Array Value} {D : va_G} {cA : ClassId} {A : Nat → Prop}
/-- behind any call -/
theorem GO0 {Qc : State → Outcome → State → Prop} {A1 : Nat → Prop} {mc ms : Nat} (hr : va_Run p l e R s m args below meth c H locs cells slots mc ms (F0 m pc ls st0) rest Qc A1)
    (kk : ∀ (v : Option Value) (st t : State) (H1 : Heap) (L : List Loc), Qc st (.returned v) t → t.heap = H1 → (∀ q ∈ L, A1 q.base) → W p l e R s m args below meth c H1 (locs ++ L) (cells + mc) (slots + ms) Q (F0 m (pc + 3) ls (v.toList ++ rest))) : W p l e R s m args below meth c H locs cells slots Q (F0 m pc ls st0) := by
  intro T hT X
  obtain ⟨v', st₀, t, T', L, h0, X', hL, e1, e2, hq, st⟩ := hr T hT X
  obtain ⟨t2, a1, b1⟩ := kk v' st₀ t T'.heap L hq e1.symm hL T' rfl X'
  exact ⟨t2, st t2 a1, b1⟩
theorem KP.S {A1 : Nat → Prop} {H1 : Heap} {L : List Loc} (hS : va_S A H0 H locs) (k : KP A1 H H1) (hA : ∀ q, A1 q → A q) (hL : ∀ q ∈ L, A1 q.base) : va_S A H0 H1 (locs ++ L) := ⟨Nat.le_trans hS.1 k.1, fun q h1 h2 => (k.2 q (Nat.lt_of_lt_of_le h1 hS.1) (fun z => h2 (hA q z))).trans (hS.2.1 q h1 h2), fun q hq => by
  rcases List.mem_append.mp hq with h | h
  · exact hS.2.2 q h
  · exact hA _ (hL q h)⟩
theorem LQ_go {P : Option Value → Heap → Prop} {A1 : Nat → Prop} {mc ms : Nat} (hr : va_Run p l e R s m args below meth c H locs cells slots mc ms (F0 m pc ls st0) rest (lqQ P A1 H a) A1) (hS : va_S A H0 H locs) (hA : ∀ q, A1 q → A q)
    (kk : ∀ (v : Option Value) (H1 : Heap) (locs1 : List Loc), P v H1 → KP A1 H H1 → va_S A H0 H1 locs1 → W p l e R s m args below meth c H1 locs1 (cells + mc) (slots + ms) Q (F0 m (pc + 3) ls (v.toList ++ rest))) : W p l e R s m args below meth c H locs cells slots Q (F0 m pc ls st0) :=
  GO0 hr (fun v _ t H1 L ⟨v', hp, hv, hk⟩ e1 hL => by
    cases hv
    subst e1
    exact kk v t.heap _ hp hk (KP.S hS hk hA hL))
theorem WRL_go {W0 W1 : va_W} {mc ms : Nat} {v : Option Value} (hr : va_Run p l e R s m args below meth c H locs cells slots mc ms (F0 m pc ls st0) rest (wrQ v D W0 W1 H a) (va_A W0 H.size)) (hS : va_S A H0 H locs) (hA : ∀ q, va_A W0 H.size q → A q)
    (kk : ∀ (H1 : Heap) (locs1 : List Loc), va_P D vwCl W1 H1 → KP (va_A W0 H.size) H H1 → va_S A H0 H1 locs1 → W p l e R s m args below meth c H1 locs1 (cells + mc) (slots + ms) Q (F0 m (pc + 3) ls (v.toList ++ rest))) : W p l e R s m args below meth c H locs cells slots Q (F0 m pc ls st0) :=
  GO0 hr (fun v' _ t H1 L ⟨hv, hp, hz, hk⟩ e1 hL => by
    cases hv
    subst e1
    exact kk t.heap _ hp ⟨hz, hk⟩ (KP.S hS ⟨hz, hk⟩ hA hL))
theorem RQL_go {W0 : va_W} {P : Option Value → va_W → Prop} {mc ms : Nat} (hr : va_Run p l e R s m args below meth c H locs cells slots mc ms (F0 m pc ls st0) rest (rlQ P D W0 H a) (va_A W0 H.size)) (hS : va_S A H0 H locs) (hA : ∀ q, va_A W0 H.size q → A q)
    (kk : ∀ (v : Option Value) (W1 : va_W) (H1 : Heap) (locs1 : List Loc), P v W1 → va_P D vwCl W1 H1 → va_D (va_A W0 H.size) W1 → KP (va_A W0 H.size) H H1 → va_S A H0 H1 locs1 → W p l e R s m args below meth c H1 locs1 (cells + mc) (slots + ms) Q (F0 m (pc + 3) ls (v.toList ++ rest))) : W p l e R s m args below meth c H locs cells slots Q (F0 m pc ls st0) :=
  GO0 hr (fun v' _ t H1 L ⟨v, W1, hp, hv, hp1, hd, hz, hk⟩ e1 hL => by
    cases hv
    subst e1
    exact kk v' W1 t.heap _ hp hp1 hd ⟨hz, hk⟩ (KP.S hS ⟨hz, hk⟩ hA hL))
theorem LQ_end {P : Option Value → Heap → Prop} {v : Option Value} (hp : P v H) (hS : va_S A H0 H locs) (t : State) (ht : t.heap = H) (oc : Outcome) (ho : oc = .returned v) : lqQ P A H0 args s oc t := ⟨v, by rw [ht]; exact hp, ho, by rw [ht]; exact hS.kp⟩
theorem LQ_zret {P : Option Value → Heap → Prop} {mc ms : Nat} {v : Int32} {ty : FieldType} (hx : p.tables.exec = Jvm.exec) (hb : c.code = cc) (hr : meth.sig.returnType = some ty) (hlk : meth.locks = false) (hdg : decode cc pc = .ok (.ireturn, 1)) (hc : cells ≤ mc) (hs : slots ≤ ms) (hp : P (some (.int v)) H) (hS : va_S A H0 H locs) (hn : narrow ty (.int v) = .int v) : W p l e R s m args below meth c H locs cells slots (MQ below (lqQ P A H0) args s mc ms A) (F0 m pc ls [.int v]) :=
  W.widen hc hs (W.zret hx hb hr hn (fun t ht _ => LQ_end hp hS t ht _ rfl) hS.2.2 hdg hlk)
theorem LQ_vret {P : Option Value → Heap → Prop} {mc ms : Nat} (hx : p.tables.exec = Jvm.exec) (hb : c.code = cc) (hr : meth.sig.returnType = none) (hlk : meth.locks = false) (hdg : decode cc pc = .ok (.return_, 1)) (hc : cells ≤ mc) (hs : slots ≤ ms) (hp : P none H) (hS : va_S A H0 H locs) : W p l e R s m args below meth c H locs cells slots (MQ below (lqQ P A H0) args s mc ms A) (F0 m pc ls []) :=
  W.widen hc hs (W.vret hx hb hr (fun t ht _ => LQ_end hp hS t ht _ rfl) hS.2.2 hdg hlk)
theorem LQ_aret {P : Option Value → Heap → Prop} {mc ms : Nat} {q : Nat} (hx : p.tables.exec = Jvm.exec) (hb : c.code = cc) {rt : FieldType} (hr : meth.sig.returnType = some rt) (hrt : (∃ n, rt = .object n) ∨ ∃ t, rt = .array t) (hlk : meth.locks = false) (hdg : decode cc pc = .ok (.areturn, 1)) (hc : cells ≤ mc) (hs : slots ≤ ms) (hp : P (some (.ref q)) H) (hS : va_S A H0 H locs) : W p l e R s m args below meth c H locs cells slots (MQ below (lqQ P A H0) args s mc ms A) (F0 m pc ls [.ref q]) :=
  W.widen hc hs (W.aret hx hb hr hrt (Or.inr ⟨_, rfl⟩) (fun t ht _ => LQ_end hp hS t ht _ rfl) hS.2.2 hdg hlk)
/-! rows of one cell -/
abbrev tyA (D : va_G) (cA : ClassId) : List (ClassId × FieldType) := [(cA, .int), (D.1 10, .boolean), (D.1 11, .array .int), (D.1 12, .array .boolean)]
theorem KK.all (hK : KK D cA s) : va_K D vwCl (tyA D cA) s := va_K.app hK.1 hK.2.2.2.2.2.2.1
theorem fa_iald (hx : p.tables.exec = Jvm.exec) (hb : c.code = cc) (hK : KK D cA s) {ad n : Nat} {f : Nat → Int32} (h : AT D ad (.inl (cA, n, .inl f)) H) {j : Nat} (hj : j < n) (hn : n < 2 ^ 31) (hdg : decode cc pc = .ok (.iaload, 1)) (kk : W p l e R s m args below meth c H locs cells slots Q (F0 m (pc + 1) ls (.int (f j) :: rest))) : W p l e R s m args below meth c H locs cells slots Q (F0 m pc ls (.int (nI j) :: .ref ad :: rest)) :=
  my_iald (D := D) hx hb hK h.one 0 rfl hj hn hdg kk
theorem fa_zald (hx : p.tables.exec = Jvm.exec) (hb : c.code = cc) (hK : KK D cA s) {ad n : Nat} {f : Nat → Int32} (h : AT D ad (.inl (D.1 10, n, .inl f)) H) {j : Nat} (hj : j < n) (hn : n < 2 ^ 31) (hdg : decode cc pc = .ok (.baload, 1)) (kk : W p l e R s m args below meth c H locs cells slots Q (F0 m (pc + 1) ls (.int (f j) :: rest))) : W p l e R s m args below meth c H locs cells slots Q (F0 m pc ls (.int (nI j) :: .ref ad :: rest)) := by
  refine va_zald hx hb hK.all h.one 0 1 rfl rfl (vp_in_nI hj hn) hdg ?_
  rw [nI_clamp (Nat.lt_trans hj hn)]
  exact kk
theorem fa_aald (tt : Nat) {cc1 : ClassId} {ty : FieldType} (hx : p.tables.exec = Jvm.exec) (hb : c.code = cc) (hK : KK D cA s) (ht : (tyA D cA)[tt]? = some (cc1, ty)) (hty : ty.isReference = true) {ad n : Nat} {f : Nat → Option Nat} (h : AT D ad (.inl (cc1, n, .inr (.inr (.inr (.inr f))))) H) {j q : Nat} (hq : f j = some q) (hj : j < n) (hn : n < 2 ^ 31) (hdg : decode cc pc = .ok (.aaload, 1)) (kk : W p l e R s m args below meth c H locs cells slots Q (F0 m (pc + 1) ls (.ref q :: rest))) : W p l e R s m args below meth c H locs cells slots Q (F0 m pc ls (.int (nI j) :: .ref ad :: rest)) := by
  refine W.aald (v := va_rf (f j)) (ty := ty) hx hb h ((hK.all.2 tt _ ht).1 n (fun j => va_rf (f j))) hty (fun q => by cases q) (by show ¬ (nI j < 0 ∨ (arrV _ _ _).slots.size ≤ _); rw [arrV_size]; exact vp_in_nI hj hn) ?_ rfl rfl hdg ?_
  · show (arrV _ _ _).slots[(nI j).toNatClampNeg]? = _
    rw [nI_clamp (Nat.lt_trans hj hn), arrV_read _ _ hj]
  · rw [hq]
    exact kk
theorem fa_alen (tt : Nat) {cc1 : ClassId} {ty : FieldType} (hx : p.tables.exec = Jvm.exec) (hb : c.code = cc) (hK : KK D cA s) (ht : (tyA D cA)[tt]? = some (cc1, ty)) {ad : Nat} {x : vp_A} (h : AT D ad (.inl (cc1, x)) H) (hdg : decode cc pc = .ok (.arraylength, 1)) (kk : W p l e R s m args below meth c H locs cells slots Q (F0 m (pc + 1) ls (.int (nI x.1) :: rest))) : W p l e R s m args below meth c H locs cells slots Q (F0 m pc ls (.ref ad :: rest)) :=
  va_alen (v := nI x.1) hx hb hK.all h.one 0 tt rfl ht rfl hdg kk
/-- one cell of it has changed -/
def ON (ad : Nat) (H H1 : Heap) : Prop := H1.size = H.size ∧ ∀ q : Nat, q ≠ ad → H1[q]? = H[q]?
theorem ON.kp {ad : Nat} {H H1 : Heap} (h : ON ad H H1) : KP (fun q => q = ad) H H1 := ⟨Nat.le_of_eq h.1.symm, fun q _ h2 => h.2 q h2⟩
theorem ON.at {ad : Nat} {H H1 : Heap} (h : ON ad H H1) {D : va_G} {b : Nat} {e : va_E} (hf : AT D b e H) (hn : b ≠ ad) : AT D b e H1 := h.kp.at hf hn
theorem ON.ex {ad : Nat} {H0 H H1 : Heap} (h : ON ad H H1) (k : EX H0 H) (hb : H0.size ≤ ad) : EX H0 H1 := ⟨Nat.le_trans k.1 (Nat.le_of_eq h.1.symm), fun q a b => (h.2 q (by omega)).trans (k.2 q a b)⟩
theorem fa_iast (hx : p.tables.exec = Jvm.exec) (hb : c.code = cc) (hK : KK D cA s) {ad n : Nat} {f : Nat → Int32} (h : AT D ad (.inl (cA, n, .inl f)) H) (hS : va_S A H0 H locs) (ha : A ad) {j : Nat} {x : Int32} (hj : j < n) (hn : n < 2 ^ 31) (hdg : decode cc pc = .ok (.iastore, 1))
    (kk : ∀ (H1 : Heap) (locs1 : List Loc), AT D ad (.inl (cA, n, .inl (upd f j x))) H1 → ON ad H H1 → va_S A H0 H1 locs1 → W p l e R s m args below meth c H1 locs1 cells slots Q (F0 m (pc + 1) ls rest)) : W p l e R s m args below meth c H locs cells slots Q (F0 m pc ls (.int x :: .int (nI j) :: .ref ad :: rest)) := by
  refine W.iast hx hb h ((hK.all.2 0 _ rfl).1 n (fun j => .int (f j))) (fun q => by cases q) (by show ¬ (nI j < 0 ∨ (arrV _ _ _).slots.size ≤ _); rw [arrV_size]; exact vp_in_nI hj hn) rfl rfl hdg fun H1 e z oq => ?_
  refine kk H1 _ ?_ ⟨z, oq⟩ (hS.put z oq ha)
  show H1[ad]? = some (vp_cell _ _)
  rw [nI_clamp (Nat.lt_trans hj hn)] at e
  rw [e]
  rw [vp_cell_i, vp_cell_i, arrV_store]
  congr 2
  funext q
  by_cases hq : q = j
  · subst hq
    simp [updV, upd]
  · simp [updV, upd, hq]
theorem fa_zast {b : Bool} (hx : p.tables.exec = Jvm.exec) (hb : c.code = cc) (hK : KK D cA s) {ad n : Nat} {f : Nat → Int32} (h : AT D ad (.inl (D.1 10, n, .inl f)) H) (hS : va_S A H0 H locs) (ha : A ad) {j : Nat} (hj : j < n) (hn : n < 2 ^ 31) (hdg : decode cc pc = .ok (.bastore, 1))
    (kk : ∀ (H1 : Heap) (locs1 : List Loc), AT D ad (.inl (D.1 10, n, .inl (upd f j (bI b)))) H1 → ON ad H H1 → va_S A H0 H1 locs1 → W p l e R s m args below meth c H1 locs1 cells slots Q (F0 m (pc + 1) ls rest)) : W p l e R s m args below meth c H locs cells slots Q (F0 m pc ls (.int (bI b) :: .int (nI j) :: .ref ad :: rest)) := by
  refine W.zast hx hb h ((hK.all.2 1 _ rfl).1 n (fun j => .int (f j))) (fun q => by cases q) (by show ¬ (nI j < 0 ∨ (arrV _ _ _).slots.size ≤ _); rw [arrV_size]; exact vp_in_nI hj hn) rfl rfl hdg fun H1 e z oq => ?_
  refine kk H1 _ ?_ ⟨z, oq⟩ (hS.put z oq ha)
  show H1[ad]? = some (vp_cell _ _)
  rw [nI_clamp (Nat.lt_trans hj hn), bI_nar] at e
  rw [e]
  rw [vp_cell_i, vp_cell_i, arrV_store]
  congr 2
  funext q
  by_cases hq : q = j
  · subst hq
    simp [updV, upd]
  · simp [updV, upd, hq]
/-- a row of ints laid into an array of such rows -/
theorem fa_aast (hx : p.tables.exec = Jvm.exec) (hb : c.code = cc) (hK : KK D cA s) {ad n v : Nat} {f : Nat → Option Nat} {x : vp_A} (h : AT D ad (.inl (D.1 11, n, .inr (.inr (.inr (.inr f))))) H) (hv : AT D v (.inl (cA, x)) H) (hS : va_S A H0 H locs) (ha : A ad) {j : Nat} (hj : j < n) (hn : n < 2 ^ 31) (hdg : decode cc pc = .ok (.aastore, 1))
    (kk : ∀ (H1 : Heap) (locs1 : List Loc), AT D ad (.inl (D.1 11, n, .inr (.inr (.inr (.inr (va_up f j (some v))))))) H1 → ON ad H H1 → va_S A H0 H1 locs1 → W p l e R s m args below meth c H1 locs1 cells slots Q (F0 m (pc + 1) ls rest)) : W p l e R s m args below meth c H locs cells slots Q (F0 m pc ls (.ref v :: .int (nI j) :: .ref ad :: rest)) := by
  obtain ⟨comp, cA2, kA, k3, -, k1, k2, k4⟩ := arrayOverA_spec (va_AOA.use (A := args) hK.2.2.2.2.2.2.2.1)
  have e4 : cA2 = D.1 11 := Option.some.inj (k4.symm.trans (hK.all.2 2 _ rfl).2)
  subst e4
  have e3 : comp = cA := Option.some.inj (k3.symm.trans (hK.all.2 0 _ rfl).2)
  subst e3
  obtain ⟨kE, hkE, -⟩ := Vm.findClass_spec k3
  have hcv : ∃ cv : Cell, H[v]? = some cv ∧ cv.vm = .none ∧ cv.cls = comp := by
    have h1 : H[v]? = some (vp_cell comp x) := hv
    obtain ⟨n9, f | f | f | f | f⟩ := x <;> exact ⟨_, h1, rfl, rfl⟩
  obtain ⟨cv, g1, g2, g3⟩ := hcv
  have g0 : ∀ q, cv.vm ≠ .statics q := fun q h9 => by rw [g2] at h9; cases h9
  refine W.aast hx hb h (fun q h => by cases h) (fun h => by cases h) k1 k2 rfl hkE ⟨nI_pos (Nat.lt_trans hj hn), by show _ < (arrV _ _ _).slots.size; rw [arrV_size, nI_clamp (Nat.lt_trans hj hn)]; exact hj⟩ g1 g0 (by rw [g3]; exact hkE) (by rw [g3]; exact va_asg _ _) rfl rfl hdg fun H1 e z oq => ?_
  refine kk H1 _ ?_ ⟨z, oq⟩ (hS.put z oq ha)
  show H1[ad]? = some (vp_cell _ _)
  rw [nI_clamp (Nat.lt_trans hj hn)] at e
  rw [e]
  rw [vp_cell_q, vp_cell_q, arrV_store]
  congr 2
  funext q
  by_cases hq : q = j
  · subst hq
    simp [updV, va_up, va_rf]
  · simp [updV, va_up, hq]
/-- a field of an object -/
theorem fa_put {own ref C : String} {T : u_T} {N ci index : Nat} {ad : Nat} {Ts : List Cond} (hx : p.tables.exec = Jvm.exec) (hb : c.code = cc) (hts : ∀ w ∈ Ts, w.before args s = true) (hin : ∀ w ∈ u_ws C T N, w ∈ Ts) (ty0 : Nat → FieldType) (hty : ∀ k, k < N → parseFieldDescriptor (T k).2.2.1 = some (ty0 k)) (hnm : ∀ a, a < N → ∀ b, b < N → a ≠ b → (T a).2.1 ≠ (T b).2.1) (hown : s.vm.findClass own = some m.cls) (hK : KK D cA s) {fs : List Value} (h : AT D ad (.inr (ci, fs)) H) (hS0 : va_S A H0 H locs) (ha : A ad) (hc : vwCl[ci]? = some (C, T, N)) (k : Nat) (hk : k < N) (hlink : (Cond.fieldLink own index ref (T k).2.1 (T k).2.2.1).before args s = true) (hsame : ∀ x, s.fieldFound? (T k).1 (T k).2.1 (T k).2.2.1 = some x → s.fieldFound? ref (T k).2.1 (T k).2.2.1 = some x) (hfin : (T k).2.2.2 = false) {ty : FieldType} {v : Value} (hd : parseFieldDescriptor (T k).2.2.1 = some ty) (hn : narrow ty v = v) (hfit : fits ty v = true) (hl : k < fs.length)
    (hdg : decode cc pc = .ok (.putfield index, 3)) (kk : ∀ (H1 : Heap) (locs1 : List Loc), AT D ad (.inr (ci, fs.set k v)) H1 → ON ad H H1 → va_S A H0 H1 locs1 → W p l e R s m args below meth c H1 locs1 cells slots Q (F0 m (pc + 3) ls rest)) : W p l e R s m args below meth c H locs cells slots Q (F0 m pc ls (v :: .ref ad :: rest)) := by
  have hap := va_apart (own := own) hts hin ty0 hty hnm hK.1 hc
  obtain ⟨r, h1, cell, q1, q2, q3, q4⟩ := h
  have hr : r = (C, T, N) := Option.some.inj (h1.symm.trans hc)
  subst hr
  obtain ⟨hS, hfc, kC, hkC, hkind⟩ := hK.1.1 ci _ hc
  obtain ⟨cf, kf, fi, f, hi, hsl⟩ := hS k hk
  have hlay := hts _ (hin _ (u_in_lay hk))
  unfold u_lay at hlay
  rw [if_neg (by rw [hfin]; decide)] at hlay
  have hst := (u_facts hfc hkC (u_lays hts hin hk) hi).1
  have h6 := u_store hfc hkC hkind hlay hi hd hn hfit
  refine W.putK hx hb (f := f) ⟨hown, hlink, ⟨_, _, _, hsame _ hi⟩, hst⟩ (by rw [q2]; exact h6) q1 q3 (by rw [hsl]; exact k2_hasslot (q4 k hk)) rfl rfl hdg fun H' e1 e2 e3 => ?_
  rw [hsl] at e1 ⊢
  exact kk H' _ ⟨_, hc, t_OB.to (V := updV (vp_V fs) k v) ⟨_, e1, q2, q3, t_set q4 hap hk v⟩ (fun j _ => vp_updV_set hl v j)⟩ ⟨e2, e3⟩ (hS0.put e2 e3 ha)
theorem fa_get {own ref C : String} {T : u_T} {N ci index : Nat} {ad : Nat} {Ts : List Cond} (hx : p.tables.exec = Jvm.exec) (hb : c.code = cc) (hts : ∀ w ∈ Ts, w.before args s = true) (hin : ∀ w ∈ u_ws C T N, w ∈ Ts) (hown : s.vm.findClass own = some m.cls) (hK : KK D cA s) {fs : List Value} (h : AT D ad (.inr (ci, fs)) H) (hc : vwCl[ci]? = some (C, T, N)) (k : Nat) (hk : k < N) (hlink : (Cond.fieldLink own index ref (T k).2.1 (T k).2.2.1).before args s = true) (hsame : ∀ x, s.fieldFound? (T k).1 (T k).2.1 (T k).2.2.1 = some x → s.fieldFound? ref (T k).2.1 (T k).2.2.1 = some x) {v : Value} (hv : fs[k]? = some v) (hdg : decode cc pc = .ok (.getfield index, 3))
    (kk : W p l e R s m args below meth c H locs cells slots Q (F0 m (pc + 3) ls (v :: rest))) : W p l e R s m args below meth c H locs cells slots Q (F0 m pc ls (.ref ad :: rest)) :=
  va_get (D := D) hx hb hts hin hown hK.1 h.one 0 rfl hc k hk hlink hsame hv hdg kk
/-- what is new lies behind all that was there -/
theorem va_S.new {H1 : Heap} (hS : va_S A H0 H locs) (z : H1.size = H.size + 1) (o : ∀ q : Nat, q < H.size → H1[q]? = H[q]?) : va_S A H0 H1 locs ∧ EX H H1 := ⟨⟨Nat.le_trans hS.1 (by omega), fun x h1 h2 => (o x (Nat.lt_of_lt_of_le h1 hS.1)).trans (hS.2.1 x h1 h2), hS.2.2⟩, ⟨by omega, fun q h1 _ => o q h1⟩⟩
theorem fa_newI (hx : p.tables.exec = Jvm.exec) (hb : c.code = cc) (harr : (Cond.arrayClass .int).before args s = true) (hK : KK D cA s) (hS : va_S A H0 H locs) {N' : Nat} (hN : N' < 2 ^ 20) (hcells : cells + 1 ≤ R.cells) (hslots : slots + N' ≤ R.slots) (hdg : decode cc pc = .ok (.newarray .int, 2))
    (kk : ∀ (q : Nat) (H1 : Heap), AT D q (.inl (cA, N', .inl (fun _ => 0))) H1 → q = H.size → EX H H1 → va_S A H0 H1 locs → W p l e R s m args below meth c H1 locs (cells + 1) (slots + N') Q (F0 m (pc + 2) ls (.ref q :: rest))) : W p l e R s m args below meth c H locs cells slots Q (F0 m pc ls (.int (nI N') :: rest)) := by
  refine va_newaK (atype := .int) hx hb harr rfl hdg rfl (nI_pos (by omega)) (nI_clamp (by omega)) (by show N' * 4 ≤ _; omega) hcells hslots rfl fun H1 cB e1 z1 o1 hAr hNm => ?_
  obtain ⟨s1, s2⟩ := hS.new z1 o1
  have hcB : cB = cA := Option.some.inj (hNm.symm.trans (hK.all.2 0 _ rfl).2)
  subst hcB
  exact kk H.size H1 e1 rfl s2 s1
theorem fa_newZ (hx : p.tables.exec = Jvm.exec) (hb : c.code = cc) (harr : (Cond.arrayClass .boolean).before args s = true) (hK : KK D cA s) (hS : va_S A H0 H locs) {N' : Nat} (hN : N' < 2 ^ 20) (hcells : cells + 1 ≤ R.cells) (hslots : slots + N' ≤ R.slots) (hdg : decode cc pc = .ok (.newarray .boolean, 2))
    (kk : ∀ (q : Nat) (H1 : Heap), AT D q (.inl (D.1 10, N', .inl (fun _ => 0))) H1 → q = H.size → EX H H1 → va_S A H0 H1 locs → W p l e R s m args below meth c H1 locs (cells + 1) (slots + N') Q (F0 m (pc + 2) ls (.ref q :: rest))) : W p l e R s m args below meth c H locs cells slots Q (F0 m pc ls (.int (nI N') :: rest)) := by
  refine va_newaK (atype := .boolean) hx hb harr rfl hdg rfl (nI_pos (by omega)) (nI_clamp (by omega)) (by show N' * 1 ≤ _; omega) hcells hslots rfl fun H1 cB e1 z1 o1 hAr hNm => ?_
  obtain ⟨s1, s2⟩ := hS.new z1 o1
  have hcB : cB = D.1 10 := Option.some.inj (hNm.symm.trans (hK.all.2 1 _ rfl).2)
  subst hcB
  exact kk H.size H1 e1 rfl s2 s1
/-- an array of rows of ints -/
theorem fa_newA {own : String} {index : Nat} (hx : p.tables.exec = Jvm.exec) (hb : c.code = cc) (hown : s.vm.findClass own = some m.cls) (hclink : (Cond.classLink own index "[I").before args s = true) (hK : KK D cA s) (hS : va_S A H0 H locs) {N' : Nat} (hN : N' < 2 ^ 20) (hcells : cells + 1 ≤ R.cells) (hslots : slots + N' ≤ R.slots) (hdg : decode cc pc = .ok (.anewarray index, 3))
    (kk : ∀ (q : Nat) (H1 : Heap), AT D q (.inl (D.1 11, N', .inr (.inr (.inr (.inr (fun _ => none)))))) H1 → q = H.size → EX H H1 → va_S A H0 H1 locs → W p l e R s m args below meth c H1 locs (cells + 1) (slots + N') Q (F0 m (pc + 3) ls (.ref q :: rest))) : W p l e R s m args below meth c H locs cells slots Q (F0 m pc ls (.int (nI N') :: rest)) := by
  have ecl : (nI N').toNatClampNeg = N' := nI_clamp (by omega)
  refine W.anewA (t := .int) hx hb hown hclink (va_AOA.use hK.2.2.2.2.2.2.2.1) rfl hdg rfl (nI_pos (by omega)) (by rw [ecl]; omega) hcells (by rw [ecl]; exact hslots) fun cB kA comp f1 f2 f3 f4 => ?_
  have hcB : cB = D.1 11 := Option.some.inj (f1.symm.trans (hK.all.2 2 _ rfl).2)
  subst hcB
  rw [ecl]
  generalize hH1 : H.push ({ cls := D.1 11, slots := Array.replicate N' .null, vm := .none } : Cell) = H1
  have z1 : H1.size = H.size + 1 := by rw [← hH1, Array.size_push]
  have e1 : H1[H.size]? = some (arrV (D.1 11) N' (fun _ => .null)) := by rw [← hH1, Array.getElem?_push_size, ← arrV_new]
  have o1 : ∀ q : Nat, q < H.size → H1[q]? = H[q]? := fun q hq => by rw [← hH1, Array.getElem?_push, if_neg (Nat.ne_of_lt hq)]
  obtain ⟨s1, s2⟩ := hS.new z1 o1
  exact kk H.size H1 (by show H1[H.size]? = some (vp_cell _ _); rw [vp_cell_q]; exact e1) rfl s2 s1
/-- rows of a kind and the array that holds them, all of them new -/
theorem fa_mna {own : String} {index : Nat} {ty : FieldType} {cO cR : ClassId} (hx : p.tables.exec = Jvm.exec) (hb : c.code = cc) (hown : s.vm.findClass own = some m.cls) (hclink : (Cond.classLink own index ("[" ++ (FieldType.array ty).toString)).before args s = true) (harr : (Cond.arrayClass ty).before args s = true) (hover : va_AOA ty s) (hcO : s.vm.findClass ("[" ++ (FieldType.array ty).toString) = some cO) (hcR : s.vm.findClass (FieldType.array ty).toString = some cR) (hd0 : defaultValue ty = .int 0) (hcb : componentBytes ty ≤ 4) (hdf : fits ty (defaultValue ty) = true) (hS : va_S A H0 H locs) {N' K' : Nat} (hN : N' < 2 ^ 10) (hK' : K' < 2 ^ 10) (hcells : cells + (1 + N') ≤ R.cells) (hslots : slots + (N' + N' * K') ≤ R.slots) (hdg : decode cc pc = .ok (.multianewarray index 2, 4))
    (kk : ∀ (q : Nat) (r : Nat → Nat) (H1 : Heap), AT D q (.inl (cO, N', .inr (.inr (.inr (.inr (fun i => some (r i))))))) H1 → (∀ i, i < N' → AT D (r i) (.inl (cR, K', .inl (fun _ => 0))) H1) → (∀ i j, r i = r j → i = j) → (∀ i, r i ≠ q) → H.size ≤ q → (∀ i, H.size ≤ r i) → EX H H1 → va_S A H0 H1 locs →
      W p l e R s m args below meth c H1 locs (cells + 1 + N') (slots + N' + N' * K') Q (F0 m (pc + 4) ls (.ref q :: rest))) : W p l e R s m args below meth c H locs cells slots Q (F0 m pc ls (.int (nI K') :: .int (nI N') :: rest)) := by
  have eN : (nI N').toNatClampNeg = N' := nI_clamp (by omega)
  have eK : (nI K').toNatClampNeg = K' := nI_clamp (by omega)
  have hb2 : K' * componentBytes ty ≤ 536870912 := Nat.le_trans (Nat.mul_le_mul (Nat.le_of_lt hK') hcb) (by decide)
  intro T hT Xs
  obtain ⟨vm₁, cB, comp, -, fA, fC, -, -, X', step⟩ := Xs.multianewarray2F hx hown hclink (va_AOA.use hover) harr (g := F0 m pc ls (.int (nI K') :: .int (nI N') :: rest)) rfl (by rw [hb]; exact hdg) rfl (nI_pos (by omega)) (nI_pos (by omega)) (by rw [eN]; omega) (by rw [eK]; exact hb2) (by rw [eK]; omega) hdf (by rw [hd0]; rfl) (by rw [eN]; exact hcells) (by rw [eN, eK]; exact hslots)
  have e4 : cB = cO := Option.some.inj (fA.symm.trans hcO)
  have e3 : comp = cR := Option.some.inj (fC.symm.trans hcR)
  subst e4
  subst e3
  rw [eN, eK, hd0] at X' step
  generalize hF : Jvm.Free.Multi.fill (T.setVm vm₁) cB comp N' K' (.int 0) N' = F at X' step
  have hTh : (T.setVm vm₁).heap = H := hT
  obtain ⟨f1, f2, -, -⟩ := Jvm.Free.Multi.fill_facts (T.setVm vm₁) cB comp N' K' (.int 0) N'
  rw [hF, hTh] at f1 f2
  have hold : ∀ x : Nat, x < H.size → F.heap[x]? = H[x]? := fun x hx9 => by
    have := Jvm.Free.Multi.fill_old (T.setVm vm₁) cB comp N' K' (.int 0) (a := x) (by rw [hTh]; exact hx9) N'
    rw [hF, hTh] at this
    exact this
  have hrow : ∀ j : Nat, j < N' → F.heap[H.size + 1 + j]? = some (vp_cell comp (K', .inl (fun _ => 0))) := fun j hj => by
    have := Jvm.Free.Multi.fill_inner (T.setVm vm₁) cB comp N' K' (.int 0) N' j hj
    rw [hF, hTh] at this
    rw [this, vp_cell_i]
    exact congrArg some (arrV_new comp K' (.int 0))
  rw [vr_outer cB N' H.size N'] at f2
  have hout : AT D H.size (.inl (cB, N', .inr (.inr (.inr (.inr (fun i => some (H.size + 1 + i))))))) F.heap := by
    have h9 : AT D H.size (.inl (cB, N', .inr (.inr (.inr (.inr (fun i => if i < N' then some (H.size + 1 + i) else none)))))) F.heap := by
      show F.heap[H.size]? = some (vp_cell _ _)
      rw [vp_cell_q]
      exact f2
    exact at_congq h9 (fun j hj => if_pos hj)
  obtain ⟨t, a1, b1⟩ := kk H.size (fun i => H.size + 1 + i) F.heap hout (fun i hi => hrow i hi) (fun i j h => by have h9 : H.size + 1 + i = H.size + 1 + j := h; omega) (fun i h => by have h9 : H.size + 1 + i = H.size := h; omega) (Nat.le_refl _) (fun i => by show H.size ≤ H.size + 1 + i; omega) ⟨by rw [f1]; omega, fun q h1 _ => hold q h1⟩ ⟨by rw [f1]; have := hS.1; omega, fun x h1 h2 => (hold x (Nat.lt_of_lt_of_le h1 hS.1)).trans (hS.2.1 x h1 h2), hS.2.2⟩ F rfl X'
  refine ⟨t, step t ?_, b1⟩
  have e : T.heap.size = H.size := by rw [hT]
  rw [e]
  exact a1
/-! a method's own arrays, in a list -/
theorem li_iast {ws : va_W} (hx : p.tables.exec = Jvm.exec) (hb : c.code = cc) (hK : KK D cA s) (hP : va_P D vwCl ws H) (hD : va_D A ws) (hS : va_S A H0 H locs) (q0 : Nat) {ad n : Nat} {f : Nat → Int32} (ha : ws[q0]? = some (ad, .inl (cA, n, .inl f))) {j : Nat} {x : Int32} (hj : j < n) (hn : n < 2 ^ 31) (hdg : decode cc pc = .ok (.iastore, 1))
    (kk : ∀ (H1 : Heap) (locs1 : List Loc), va_P D vwCl (ws.set q0 (ad, .inl (cA, n, .inl (upd f j x)))) H1 → va_D A (ws.set q0 (ad, .inl (cA, n, .inl (upd f j x)))) → va_S A H0 H1 locs1 → ON ad H H1 → W p l e R s m args below meth c H1 locs1 cells slots Q (F0 m (pc + 1) ls rest)) : W p l e R s m args below meth c H locs cells slots Q (F0 m pc ls (.int x :: .int (nI j) :: .ref ad :: rest)) :=
  fa_iast (D := D) hx hb hK (hP q0 _ ha) hS (hD.2 q0 _ ha) hj hn hdg (fun H1 locs1 h o hS => kk H1 locs1 (hP.set hD ha h o.2) (hD.set ha) hS o)
theorem li_zast {b : Bool} {ws : va_W} (hx : p.tables.exec = Jvm.exec) (hb : c.code = cc) (hK : KK D cA s) (hP : va_P D vwCl ws H) (hD : va_D A ws) (hS : va_S A H0 H locs) (q0 : Nat) {ad n : Nat} {f : Nat → Int32} (ha : ws[q0]? = some (ad, .inl (D.1 10, n, .inl f))) {j : Nat} (hj : j < n) (hn : n < 2 ^ 31) (hdg : decode cc pc = .ok (.bastore, 1))
    (kk : ∀ (H1 : Heap) (locs1 : List Loc), va_P D vwCl (ws.set q0 (ad, .inl (D.1 10, n, .inl (upd f j (bI b))))) H1 → va_D A (ws.set q0 (ad, .inl (D.1 10, n, .inl (upd f j (bI b))))) → va_S A H0 H1 locs1 → ON ad H H1 → W p l e R s m args below meth c H1 locs1 cells slots Q (F0 m (pc + 1) ls rest)) : W p l e R s m args below meth c H locs cells slots Q (F0 m pc ls (.int (bI b) :: .int (nI j) :: .ref ad :: rest)) :=
  fa_zast (D := D) hx hb hK (hP q0 _ ha) hS (hD.2 q0 _ ha) hj hn hdg (fun H1 locs1 h o hS => kk H1 locs1 (hP.set hD ha h o.2) (hD.set ha) hS o)
theorem li_push {ws : va_W} {q : Nat} {e0 : va_E} {H1 : Heap} (hP : va_P D vwCl ws H) (hD : va_D A ws) (h : AT D q e0 H1) (hq : q = H.size) (hE : EX H H1) (hA : A q) : va_P D vwCl (ws ++ [(q, e0)]) H1 ∧ va_D A (ws ++ [(q, e0)]) := ⟨(hE.P hP).app h.one, hD.push hP hq hA⟩
end MYR
