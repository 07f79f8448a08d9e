/-! THE CONTEXT OF A WALK: the machine's, the world's, the end's -/
abbrev mv_Y : Type := MethodName × ByteArray × Nat × Option FieldType × List (Nat × Nat × Nat × Nat) × Nat × Nat
abbrev mv_Y.nm (Y : mv_Y) : MethodName := Y.1
abbrev mv_Y.cc (Y : mv_Y) : ByteArray := Y.2.1
abbrev mv_Y.nL (Y : mv_Y) : Nat := Y.2.2.1
abbrev mv_Y.ret (Y : mv_Y) : Option FieldType := Y.2.2.2.1
abbrev mv_Y.hh (Y : mv_Y) : List (Nat × Nat × Nat × Nat) := Y.2.2.2.2.1
abbrev mv_Y.fr (Y : mv_Y) : Nat := Y.2.2.2.2.2.1
abbrev mv_Y.lo (Y : mv_Y) : Nat := Y.2.2.2.2.2.2
/-- words; classes; kinds of arrays; what stands outside; the names of what is thrown; the methods; their handlers -/
abbrev mv_Gp : Type := List Cond × List vw_C × List FieldType × ((Nat → Option Nat) → (Nat → Prop) → State → Heap → Prop) × (Nat → String) × (Nat → mv_Y) × (Nat → Nat → Nat → Option (Option (Nat × Nat)))
abbrev mv_Gp.G (g : mv_Gp) : List Cond := g.1
abbrev mv_Gp.cl (g : mv_Gp) : List vw_C := g.2.1
abbrev mv_Gp.tk (g : mv_Gp) : List FieldType := g.2.2.1
abbrev mv_Gp.Ph (g : mv_Gp) : (Nat → Option Nat) → (Nat → Prop) → State → Heap → Prop := g.2.2.2.1
abbrev mv_Gp.exn (g : mv_Gp) : Nat → String := g.2.2.2.2.1
abbrev mv_Gp.M (g : mv_Gp) : Nat → mv_Y := g.2.2.2.2.2.1
abbrev mv_Gp.X (g : mv_Gp) : Nat → Nat → Nat → Option (Option (Nat × Nat)) := g.2.2.2.2.2.2
abbrev mv_Cx : Type := (Program × Launch × Env × Room × State × MethodId × Array Value × List Frame × Method × Code) × (va_G × (Nat → ClassId) × (Nat → Option Nat) × (Nat → Prop) × List Nat × Nat × Nat) × ((Array Value → State → Outcome → State → Prop) × (Nat → Prop) × mv_O × mv_H)
abbrev mv_Cx.p (x : mv_Cx) : Program := x.1.1
abbrev mv_Cx.l (x : mv_Cx) : Launch := x.1.2.1
abbrev mv_Cx.e (x : mv_Cx) : Env := x.1.2.2.1
abbrev mv_Cx.R (x : mv_Cx) : Room := x.1.2.2.2.1
abbrev mv_Cx.s (x : mv_Cx) : State := x.1.2.2.2.2.1
abbrev mv_Cx.m (x : mv_Cx) : MethodId := x.1.2.2.2.2.2.1
abbrev mv_Cx.args (x : mv_Cx) : Array Value := x.1.2.2.2.2.2.2.1
abbrev mv_Cx.below (x : mv_Cx) : List Frame := x.1.2.2.2.2.2.2.2.1
abbrev mv_Cx.meth (x : mv_Cx) : Method := x.1.2.2.2.2.2.2.2.2.1
abbrev mv_Cx.c (x : mv_Cx) : Code := x.1.2.2.2.2.2.2.2.2.2
abbrev mv_Cx.D (x : mv_Cx) : va_G := x.2.1.1
abbrev mv_Cx.cA (x : mv_Cx) : Nat → ClassId := x.2.1.2.1
abbrev mv_Cx.sd (x : mv_Cx) : Nat → Option Nat := x.2.1.2.2.1
abbrev mv_Cx.A (x : mv_Cx) : Nat → Prop := x.2.1.2.2.2.1
abbrev mv_Cx.as0 (x : mv_Cx) : List Nat := x.2.1.2.2.2.2.1
abbrev mv_Cx.c0 (x : mv_Cx) : Nat := x.2.1.2.2.2.2.2.1
abbrev mv_Cx.s0 (x : mv_Cx) : Nat := x.2.1.2.2.2.2.2.2
abbrev mv_Cx.E (x : mv_Cx) : Array Value → State → Outcome → State → Prop := x.2.2.1
abbrev mv_Cx.free (x : mv_Cx) : Nat → Prop := x.2.2.2.1
abbrev mv_Cx.o (x : mv_Cx) : mv_O := x.2.2.2.2.1
abbrev mv_Cx.hf (x : mv_Cx) : mv_H := x.2.2.2.2.2
/-- an end that returns or throws: what it says, and the frame: old cells outside 'free' are as they were, so many new ones -/
def mz_Q (E : Array Value → State → Outcome → State → Prop) (mc ms : Nat) (free : Nat → Prop) : Array Value → State → Outcome → State → Prop := fun a st o t =>
  E a st o t ∧ st.WarmedH t.vm ∧ ∃ L : List Loc, st.sameButNew ({ t with vm := st.vm } : State) L mc ms ∧ ∀ z ∈ L, free z.base
def mz_MQ (below : List Frame) (E : Array Value → State → Outcome → State → Prop) (a : Array Value) (s : State) (mc ms : Nat) (free : Nat → Prop) : State → Prop := fun t =>
  ∃ o, t.status = .running ∧ Ended t below o ∧ mz_Q E mc ms free a s o t
def mz_Met (l : Launch) (y : MethodName) (w : Cond) (rm : Room) (Pc : Array Value → State → Prop) (E : Array Value → State → Outcome → State → Prop) (mc ms : Nat) (free : Nat → Prop) : Prop :=
  MetFree l y (headSpec [w] rm) Pc (fun _ _ _ _ _ => True) (mz_Q E mc ms free)
theorem mz_ret {p : Program} {l : Launch} {e : Env} {R : Room} {s : State} {m : MethodId} {args : Array Value} {below : List Frame} {meth : Method} {c : Code} {H : Heap} {locs : List Loc} {cells slots : Nat} {E : Array Value → State → Outcome → State → Prop} {mc ms : Nat} {free : Nat → Prop} {f : JFrame}
    (k : W p l e R s m args below meth c H locs cells slots (MQ below E args s mc ms free) f) : W p l e R s m args below meth c H locs cells slots (mz_MQ below E args s mc ms free) f := by
  intro T hT X
  obtain ⟨t, a1, o, b1, b2, b3, L, ⟨-, b4, b5⟩, b6⟩ := k T hT X
  exact ⟨t, a1, o, b1, b2, b3, b4, L, b5, b6⟩
abbrev mv_Cx.Q (x : mv_Cx) : State → Prop := mz_MQ x.below x.E x.args x.s (x.hf.2.1 - x.c0) (x.hf.2.2 - x.s0) x.free
abbrev mv_W (x : mv_Cx) (H : Heap) (locs : List Loc) (k n : Nat) (f : JFrame) : Prop := W x.p x.l x.e x.R x.s x.m x.args x.below x.meth x.c H locs k n x.Q f
def mv_tys (cA : Nat → ClassId) (tk : List FieldType) : List (ClassId × FieldType) := (List.range tk.length).map (fun i => (cA i, tk.getD i .int))
theorem mv_tys_at {cA : Nat → ClassId} {tk : List FieldType} {t : Nat} {ty : FieldType} (h : tk[t]? = some ty) : (mv_tys cA tk)[t]? = some (cA t, ty) := by
  have hlt := (List.getElem?_eq_some_iff.mp h).1
  unfold mv_tys
  rw [List.getElem?_map, List.getElem?_range hlt]
  simp [List.getD_eq_getElem?_getD, h]
/-- the world, now -/
def mv_Wr (g : mv_Gp) (x : mv_Cx) (as : List Nat) (h : mv_H) (H : Heap) (locs : List Loc) : Prop :=
  as.length = h.1.length ∧ x.as0 <+: as ∧ va_P x.D g.cl (mv_w as x.sd x.cA h.1) H ∧ va_D x.A (mv_w as x.sd x.cA h.1) ∧ va_S x.A x.s.heap H locs
/-- from there the walk comes to its end -/
def mv_G (g : mv_Gp) (nL : Nat) (x : mv_Cx) (f : mv_F) (h : mv_H) : Prop :=
  x.c0 ≤ h.2.1 → x.s0 ≤ h.2.2 → h.2.1 ≤ x.hf.2.1 → h.2.2 ≤ x.hf.2.2 → ∀ (as : List Nat) (H : Heap) (locs : List Loc) (ls : Array Slot), mv_Wr g x as h H locs → mv_L as x.sd ls nL f.2.1 →
    mv_W x H locs (h.2.1 - x.c0) (h.2.2 - x.s0) (F0 x.m f.1 ls (f.2.2.map (mv_v as x.sd)))
/-- a method's contract, out of one run of the small machine -/
def mv_Pc (g : mv_Gp) (D : va_G) (cA : Nat → ClassId) (sd : Nat → Option Nat) (as : List Nat) (h : mv_H) (vs : List Value) (sz : Nat) : Array Value → State → Prop :=
  va_Pc (vs.map (mv_v as sd)) (fun U => U.heap.size = sz ∧ as.length = h.1.length ∧ (∀ w ∈ g.G, w.before #[] U = true) ∧ va_K D g.cl (mv_tys cA g.tk) U ∧ g.Ph sd (va_A (mv_w as sd cA h.1) sz) U U.heap ∧ va_P D g.cl (mv_w as sd cA h.1) U.heap ∧ va_D (fun _ => True) (mv_w as sd cA h.1))
def mv_Nd (g : mv_Gp) (D : va_G) (cA : Nat → ClassId) (sd : Nat → Option Nat) (A : Nat → Prop) (as : List Nat) (h2 : mv_H) (st t : State) (as2 : List Nat) : Prop :=
  as <+: as2 ∧ as2.length = h2.1.length ∧ va_P D g.cl (mv_w as2 sd cA h2.1) t.heap ∧ va_D A (mv_w as2 sd cA h2.1) ∧ va_F A st t
/-- the end of a run with the outcome o and the heap h2 -/
def mv_En (g : mv_Gp) (D : va_G) (cA : Nat → ClassId) (sd : Nat → Option Nat) (A : Nat → Prop) (as : List Nat) (o : mv_O) (h2 : mv_H) : Array Value → State → Outcome → State → Prop := fun _ st oc t =>
  (∃ (v : Option Value) (as2 : List Nat), o = .inl v ∧ oc = .returned (v.map (mv_v as2 sd)) ∧ mv_Nd g D cA sd A as h2 st t as2) ∨
  (∃ (k : Nat) (as2 : List Nat) (q : Nat) (ce : Cell), o = .inr k ∧ oc = .threw q ∧ t.heap[q]? = some ce ∧ ce.vm = .none ∧ st.vm.findClass (g.exn k) = some ce.cls ∧ mv_Nd g D cA sd A as h2 st t as2)
def mv_code (Y : mv_Y) : Cond := match Y.hh with
  | [] => .code Y.nm Y.cc Y.nL Y.ret
  | _ :: _ => .codeWith Y.nm Y.cc Y.nL Y.ret Y.hh
abbrev mv_rm (Y : mv_Y) (h h2 : mv_H) : Room := { frames := Y.fr, cells := h2.2.1 - h.2.1, slots := h2.2.2 - h.2.2, locals := Y.lo }
def mv_Mt (g : mv_Gp) (l : Launch) (z : Nat) (vs : List Value) (h : mv_H) (o : mv_O) (h2 : mv_H) : Prop :=
  ∀ (D : va_G) (cA : Nat → ClassId) (sd : Nat → Option Nat) (as : List Nat) (sz : Nat), mz_Met l (g.M z).nm (mv_code (g.M z)) (mv_rm (g.M z) h h2) (mv_Pc g D cA sd as h vs sz)
    (mv_En g D cA sd (va_A (mv_w as sd cA h.1) sz) as o h2) (h2.2.1 - h.2.1) (h2.2.2 - h.2.2) (va_A (mv_w as sd cA h.1) sz)
def mv_Cq (g : mv_Gp) (y : Nat) (x : mv_Cx) (pc : Nat) (z : Nat) (vs : List Value) (f' : mv_F) (h' : mv_H) : Prop :=
  ∃ (o2 : mv_O) (h2 : mv_H), h'.2.1 ≤ h2.2.1 ∧ h'.2.2 ≤ h2.2.2 ∧ h2.2.1 ≤ x.hf.2.1 ∧ h2.2.2 ≤ x.hf.2.2 ∧ mv_Mt g x.l z vs h' o2 h2 ∧
    (∀ v, o2 = .inl v → mv_ok h' h2 f' = true ∧ mv_G g (g.M y).nL x (f'.1, f'.2.1, v.toList ++ f'.2.2) h2) ∧
    (∀ k, o2 = .inr k → (g.X y pc k = some none ∧ x.o = .inr k ∧ x.hf = h2) ∨ ∃ (pc' i : Nat), g.X y pc k = some (some (pc', i)) ∧ mv_ok h' h2 f' = true ∧ mv_G g (g.M y).nL x (pc', (mv_cl f'.2.1 i).set i none, []) h2)
def mv_GR (g : mv_Gp) (y : Nat) (x : mv_Cx) (pc : Nat) : mv_R → Prop
  | .inl (f', h') => h'.2.1 ≤ x.hf.2.1 ∧ h'.2.2 ≤ x.hf.2.2 ∧ mv_G g (g.M y).nL x f' h'
  | .inr (.inl (o, h')) => x.o = o ∧ x.hf = h'
  | .inr (.inr (z, vs, f', h')) => mv_Cq g y x pc z vs f' h'
def mv_Xm (g : mv_Gp) (y : Nat) (x : mv_Cx) : Prop :=
  x.p.tables.exec = Jvm.exec ∧ x.c.code = (g.M y).cc ∧ x.c.maxLocals = (g.M y).nL ∧ x.s.vm.findClass (g.M y).nm.cls = some x.m.cls ∧ x.meth.locks = false ∧ x.meth.sig.returnType = (g.M y).ret ∧ x.meth.name = (g.M y).nm.name ∧
    x.c.exceptionTable.toList.map (fun h => (h.startPc, h.endPc, h.handlerPc, h.catchType)) = (g.M y).hh ∧ x.l.stackTraces = false ∧ ∀ w ∈ g.G, w.before x.args x.s = true
def mv_Xw (g : mv_Gp) (x : mv_Cx) : Prop := va_K x.D g.cl (mv_tys x.cA g.tk) x.s ∧ g.Ph x.sd x.A x.s x.s.heap ∧ (∀ q, x.s.heap.size ≤ q → x.A q) ∧ ∀ q, x.A q → x.free q
def mv_Xe (g : mv_Gp) (y : Nat) (x : mv_Cx) : Prop := x.hf.2.1 - x.c0 ≤ x.R.cells ∧ x.hf.2.2 - x.s0 ≤ x.R.slots ∧ (g.M y).fr ≤ x.R.frames ∧ (g.M y).lo ≤ x.R.locals ∧
    (∀ (v : Option Value) (as : List Nat) (t : State), x.o = .inl v → mv_Nd g x.D x.cA x.sd x.A x.as0 x.hf x.s t as → x.s.vm.Alike t.vm → x.E x.args x.s (.returned (v.map (mv_v as x.sd))) t) ∧
    ∀ (k : Nat) (as : List Nat) (t : State) (q : Nat) (ce : Cell), x.o = .inr k → t.heap[q]? = some ce → ce.vm = .none → x.s.vm.findClass (g.exn k) = some ce.cls → mv_Nd g x.D x.cA x.sd x.A x.as0 x.hf x.s t as → x.s.vm.Alike t.vm → x.E x.args x.s (.threw q) t
def mv_X (g : mv_Gp) (y : Nat) (x : mv_Cx) : Prop := mv_Xm g y x ∧ mv_Xw g x ∧ mv_Xe g y x
/-- a step is sound -/
def mv_Snd (g : mv_Gp) (y pc : Nat) (st : mv_S) : Prop := ∀ (x : mv_Cx), mv_X g y x → ∀ (L : List (Option Value)) (stk : List Value) (h : mv_H) (r : mv_R), st (pc, L, stk) h = some r → mv_GR g y x pc r → mv_G g (g.M y).nL x (pc, L, stk) h
