/-! A CALLEE RETURNS OR THROWS, back in the caller's walk -/
section MZ
variable {p : Program} {l : Launch} {e : Env} {R : Room} {s : State} {m : MethodId} {args : Array Value} {below : List Frame} {meth : Method} {c : Code} {T : State} {locs : List Loc} {cells slots : Nat}
/-- the caller's state behind a call: the heap and the tables are the callee's -/
abbrev mz_U (U t : State) : State := ({ U with heap := t.heap, slotsUsed := t.slotsUsed } : State).setVm t.vm
theorem mz_stand (X : Stand p l e R s m args below meth c T locs cells slots) {f : JFrame} {mk : MethodId} {a : Array Value} {t : State} {L : List Loc} {mc ms : Nat} (hW : (T.calling f mk a).WarmedH t.vm)
    (hs : (T.calling f mk a).sameButNew ({ t with vm := (T.calling f mk a).vm } : State) L mc ms) : Stand p l e R s m args below meth c (mz_U T t) (locs ++ L) (cells + mc) (slots + ms) := by
  obtain ⟨-, q2, q3, q4, q5, q6⟩ := hs
  have hW' : T.WarmedH t.vm := hW
  obtain ⟨g₀, hg0⟩ := Option.isSome_iff_exists.mp X.here.top
  obtain ⟨r, hr⟩ := State.topJava?_eq_some.mp hg0
  have hsame : T.sameButNew ({ T with heap := t.heap, slotsUsed := t.slotsUsed } : State) L mc ms := by
    refine ⟨?_, q2, q3, q4, q5, q6⟩
    obtain ⟨th, ht, -⟩ := State.frames_cons hr
    show ({ T with heap := t.heap, slotsUsed := t.slotsUsed } : State) = { T.setFrames T.frames with heap := t.heap, slotsUsed := t.slotsUsed }
    rw [State.setFrames_self ht]
  exact ⟨X.admits, X.cas, X.clock, X.frames, X.room, X.hears, X.method, X.code, (X.here.setHeapUsed t.heap t.slotsUsed).setVm hW'.alike, X.tail, State.WarmedH.trans X.warmed hW', X.limits, X.bytes, X.same.trans (hsame.setVm s.vm)⟩
theorem mz_back {f : JFrame} {mk : MethodId} {a : Array Value} {ig : Instr} {len : Nat} (h : At T f.method c below) (hdg : decode c.code f.pc = .ok (ig, len)) {t : State} {L : List Loc} {mc ms : Nat} {o : Outcome} (hW : (T.calling f mk a).WarmedH t.vm)
    (hs : (T.calling f mk a).sameButNew ({ t with vm := (T.calling f mk a).vm } : State) L mc ms) (hend : Ended t (T.setTop f).frames o) :
    match o with
    | .returned v => t = (mz_U T t).setTop { f with pc := f.pc + len, stack := v.toList ++ f.stack }
    | .threw q => t = ((mz_U T t).setTop f).pushFrame (.throwing q) := by
  obtain ⟨e2, -⟩ := hs
  have e3 : t = ({ (T.calling f mk a).setFrames t.frames with heap := t.heap, slotsUsed := t.slotsUsed } : State).setVm t.vm := by
    have : t = ({ t with vm := (T.calling f mk a).vm } : State).setVm t.vm := rfl
    rw [e2] at this
    exact this
  obtain ⟨g₀, hg0⟩ := Option.isSome_iff_exists.mp h.top
  obtain ⟨r, hr⟩ := State.topJava?_eq_some.mp hg0
  have hr' : (mz_U T t).frames = .java g₀ :: r := hr
  rw [State.frames_setTop' f h.top] at hend
  have hW' : T.WarmedH t.vm := hW
  cases o with
  | returned v =>
    obtain ⟨c₂, i₂, len₂, hc₂, hd₂, hf₂⟩ := hend
    have hcc : c₂ = c := by
      have h1 : t.code? f.method = T.code? f.method := by rw [State.code?_eq, State.code?_eq, hW'.alike.method?]
      exact Option.some.inj (hc₂.symm.trans (h1.trans h.code))
    subst hcc
    have hlen : len₂ = len := by rw [hdg] at hd₂; cases hd₂; rfl
    subst hlen
    refine e3.trans ?_
    rw [hf₂, State.calling_eq h.top, State.setFrames_setFrames, State.setTop_of_frames _ hr', hr]
    rfl
  | threw q =>
    have hf₂ : t.frames = .throwing q :: .java f :: T.frames.tail := hend
    refine e3.trans ?_
    rw [hf₂, State.calling_eq h.top, State.setFrames_setFrames, State.pushFrame, State.frames_setTop _ hr', State.setTop_of_frames _ hr', State.setFrames_setFrames, hr]
    rfl
/-- the call's own step over, the callee's contract gives one of two ends -/
theorem mz_call {y : MethodName} {w : Cond} {rm : Room} {Pc : Array Value → State → Prop} {E : Array Value → State → Outcome → State → Prop} {free : Nat → Prop} {maxL : Nat} (hM : mz_Met l y w rm Pc E rm.cells rm.slots free) (hbl : FrameBlind Pc)
    (X : Stand p l e R s m args below meth c T locs cells slots) {f : JFrame} (hg : f.method = m) (hsize : f.locals.size = c.maxLocals) {ig : Instr} {len : Nat} (hdg : decode c.code f.pc = .ok (ig, len)) {mk : MethodId} (hn : T.methodNamed? y = some mk) {a : Array Value}
    (hw : w.before a T = true) (hcode : ∃ methY cY, T.vm.method? mk = some methY ∧ methY.code = some cY ∧ cY.maxLocals = maxL) (hini : (Cond.initialized y.cls).before a T = true)
    (hfr : rm.frames + 1 ≤ R.frames) (hlo : 2 * f.monitorRoom + (f.stack.map fun v => v.category).sum + (maxL + 11) + rm.locals ≤ R.locals) (hc : cells + rm.cells ≤ R.cells) (hs : slots + rm.slots ≤ R.slots) (hp : Pc a T) :
    ∃ (o : Outcome) (t : State) (L : List Loc), E a (T.calling f mk a) o t ∧ (∀ z ∈ L, free z.base) ∧ Stand p l e R s m args below meth c (mz_U T t) (locs ++ L) (cells + rm.cells) (slots + rm.slots) ∧
      match o with
      | .returned v => Steps p.tables e below (doInvoke e (T.setTop f) [] mk a).1 ((mz_U T t).setTop { f with pc := f.pc + len, stack := v.toList ++ f.stack })
      | .threw q => Steps p.tables e below (doInvoke e (T.setTop f) [] mk a).1 (((mz_U T t).setTop f).pushFrame (.throwing q)) := by
  obtain ⟨methY, cY, hmY, hcY, hlY⟩ := hcode
  obtain ⟨kY, hkY, -⟩ := className_of_methodNamed hn
  have hinitY : kY.init = .initialized := Cond.initialized_spec (findClass_of_methodNamed hn) hkY hini
  have h : At T f.method c below := by rw [hg]; exact X.here
  have hpre : (headSpec [w] rm).pre.before a T = true := atoms_intro (ws := [w]) fun w' hw' => by rw [List.mem_singleton.mp hw']; exact hw
  have happ : (headSpec [w] rm).appliesLoose y e.platform (T.calling f mk a) = true :=
    Spec.appliesLoose_calling (g := f) h hdg hn hkY hinitY (X.room_calling (g := f) (R' := rm) hsize hmY hcY hfr (by rw [hlY]; omega) hc hs) hpre
  obtain ⟨mid, hmid⟩ := h.above
  have hfr2 : (T.setTop f).frames = (.java f :: mid) ++ below := by rw [State.frames_setTop' f h.top, hmid]; rfl
  obtain ⟨o, t, hsteps, -, hend, hq⟩ := Steps.callFree hM p X.admits X.cas X.clock (acts := []) hfr2 happ (hbl a T f mk hp) trivial
  obtain ⟨hE, hW, L, hsm, hL⟩ := hq
  have hb := mz_back (f := f) (mk := mk) (a := a) h hdg hW hsm hend
  refine ⟨o, t, L, hE, hL, mz_stand (f := f) (mk := mk) (a := a) X hW hsm, ?_⟩
  cases o with
  | returned v => dsimp only at hb ⊢; rw [← hb]; exact hsteps
  | threw q => dsimp only at hb ⊢; rw [← hb]; exact hsteps
end MZ
/-! WHAT IS THROWN OVER A FRAME, AND CAUGHT THERE: the search may note classes in the tables -/
section MZC
variable {e : Env} {s : State} {f : JFrame} {a : Addr} {c : Code} {below : List Frame} {tb : Tables} {target : State}
def mz_F (e : Env) (S : State) (f : JFrame) (a : Addr) (h : Handler) (vm' : Vm) : Prop := ∀ (Q : Handler → Pre) (E : CtlPost) (d : Bool) (acts : List Action), wp (findHandler f a) Q E e d acts S ↔ Q h d acts (S.setVm vm')
theorem mz_step {r : List Frame} {pc : Nat} {vm' : Vm} (hfind : mz_F e s f a (.found pc) vm') : (stepThrowing e s a (.java f :: r)).Is ((s.setVm vm').setFrames (.java { f with pc := pc, stack := [.ref a] } :: r)) [] := by
  simp only [stepThrowing, searchFrame, vmDo]
  generalize hr : Sem.go _ e false [] s = res
  obtain ⟨as, rfl, ha⟩ := Sem.eq_ok_of hr (a := Handler.found pc) (s' := s.setVm vm') (acts' := []) (by simp [hfind _ _ _ _])
  exact ⟨rfl, ha⟩
theorem mz_caught (h : At s f.method c below) {pc : Nat} {vm' : Vm} (hfind : mz_F e ((s.setTop f).pushFrame (.throwing a)) f a (.found pc) vm')
    (hrest : Steps tb e below ((s.setVm vm').setTop { f with pc := pc, stack := [.ref a] }) target) : Steps tb e below ((s.setTop f).pushFrame (.throwing a)) target := by
  obtain ⟨hgo, hw⟩ := h.throwing a
  refine Steps.head hgo hw ?_
  rw [stepThread_throwing (frames_entered h.top _), (mz_step (s := (s.setTop f).pushFrame (.throwing a)) hfind).1]
  obtain ⟨g₀, hg⟩ := Option.isSome_iff_exists.mp h.top
  obtain ⟨r, hr⟩ := State.topJava?_eq_some.mp hg
  have hr' : (s.setVm vm').frames = .java g₀ :: r := hr
  rw [State.setTop_of_frames _ hr'] at hrest
  rw [State.pushFrame, State.setTop_of_frames _ hr, State.setFrames_setFrames]
  have e1 : (((s.setFrames (.throwing a :: (s.setFrames (.java f :: r)).frames)).setVm vm').setFrames (.java { f with pc := pc, stack := [.ref a] } :: s.frames.tail)) = (s.setVm vm').setFrames (.java { f with pc := pc, stack := [.ref a] } :: r) := by
    rw [hr]
    show (((s.setVm vm').setFrames _).setFrames _) = _
    rw [State.setFrames_setFrames]
    rfl
  rw [e1]
  exact hrest
/-- an entry that names a class: it is noted; then it is asked -/
theorem mz_entry {x : ExceptionTableEntry} {t : List ExceptionTableEntry} {k : ClassId} {cell : Cell} (hx : covers x f.pc = true) (h0 : x.catchType ≠ 0) (hl : s.vm.ClassLinks e.platform f.method.cls x.catchType k) (hcell : s.heap[a]? = some cell) (hobj : ∀ z, cell.vm ≠ .statics z)
    (hk : ∃ z, s.vm.classes[cell.cls]? = some z) (hc : ∃ z, s.vm.classes[k]? = some z) (b : Bool) (hb : s.vm.assignable cell.cls k = b) {Q : Handler → Pre} {E : CtlPost} {d : Bool} {acts : List Action} :
    wp (findHandler.go f a (x :: t)) Q E e d acts s ↔ if b = true then Q (.found x.handlerPc) d acts (s.setVm (s.vm.noted f.method.cls x.catchType (.cls k))) else wp (findHandler.go f a t) Q E e d acts (s.setVm (s.vm.noted f.method.cls x.catchType (.cls k))) := by
  simp only [covers] at hx
  obtain ⟨ha, ht⟩ := (resolveClass_links e.toSetting hl).op (op := VmOp.resolveClass f.method.cls x.catchType) rfl
  have hal : s.vm.Alike (s.vm.noted f.method.cls x.catchType (.cls k)) := (Vm.Alike.refl s.vm).noted _ _ _
  obtain ⟨z1, hz1⟩ := hk
  obtain ⟨z2, hz2⟩ := hc
  obtain ⟨y1, hy1, -⟩ := hal.2.2 _ _ hz1
  obtain ⟨y2, hy2, -⟩ := hal.2.2 _ _ hz2
  have hb' : (s.vm.noted f.method.cls x.catchType (.cls k)).assignable cell.cls k = b := by rw [hal.assignable]; exact hb
  cases b <;> simp [findHandler.go, hx, h0, ha, ht, hcell, hobj, hy1, hy2, hb', VmOp.dirties, VmOp.acts]
theorem mz_search {s₀ : State} {cell : Cell} (hobj : ∀ z, cell.vm ≠ .statics z) (hk0 : ∃ z, s₀.vm.classes[cell.cls]? = some z) (x : ExceptionTableEntry) (suf : List ExceptionTableEntry) (hx : covers x f.pc = true) (h0 : x.catchType ≠ 0) {k : ClassId} (hl : s₀.vm.ClassLinks e.platform f.method.cls x.catchType k) (hfit : s₀.vm.assignable cell.cls k = true) :
    ∀ (pre : List ExceptionTableEntry) (S : State), s₀.WarmedH S.vm → S.heap[a]? = some cell → (∀ y ∈ pre, covers y f.pc = false ∨ (y.catchType ≠ 0 ∧ ∃ k', s₀.vm.ClassLinks e.platform f.method.cls y.catchType k' ∧ s₀.vm.assignable cell.cls k' = false)) →
      ∃ vm', s₀.WarmedH vm' ∧ ∀ (Q : Handler → Pre) (E : CtlPost) (d : Bool) (acts : List Action), wp (findHandler.go f a (pre ++ x :: suf)) Q E e d acts S ↔ Q (.found x.handlerPc) d acts (S.setVm vm') := by
  obtain ⟨z0, hz0⟩ := hk0
  intro pre
  induction pre with
  | nil =>
    intro S hW hcell _
    obtain ⟨y0, hy0, -⟩ := hW.alike.2.2 _ _ hz0
    obtain ⟨dk, _, _, kt, hd, _, _, _, _, hkt, _, hopen⟩ := hl.here
    obtain ⟨yt, hyt, -⟩ := hW.alike.2.2 _ _ hkt
    exact ⟨_, hW.noted hd hopen (State.rightAt_cls hl), fun Q E d acts => by
      rw [List.nil_append, mz_entry hx h0 (hW.classLinks hl) hcell hobj ⟨y0, hy0⟩ ⟨yt, hyt⟩ true (by rw [hW.alike.assignable]; exact hfit), if_pos rfl]⟩
  | cons y ys ih =>
    intro S hW hcell hpass
    have hrest : ∀ z ∈ ys, covers z f.pc = false ∨ (z.catchType ≠ 0 ∧ ∃ k', s₀.vm.ClassLinks e.platform f.method.cls z.catchType k' ∧ s₀.vm.assignable cell.cls k' = false) := fun z hz => hpass z (List.mem_cons_of_mem _ hz)
    cases hcov : covers y f.pc with
    | false =>
      obtain ⟨vm', hW', hq⟩ := ih S hW hcell hrest
      exact ⟨vm', hW', fun Q E d acts => by
        rw [List.cons_append, W.findHandler_go_skip hcov]
        exact hq Q E d acts⟩
    | true =>
      rcases hpass y List.mem_cons_self with h | ⟨hy0, k', hl', hno⟩
      · rw [h] at hcov; cases hcov
      · obtain ⟨y0, hy0', -⟩ := hW.alike.2.2 _ _ hz0
        obtain ⟨dk, _, _, kt, hd, _, _, _, _, hkt, _, hopen⟩ := hl'.here
        obtain ⟨yt, hyt, -⟩ := hW.alike.2.2 _ _ hkt
        obtain ⟨vm', hW', hq⟩ := ih (S.setVm (S.vm.noted f.method.cls y.catchType (.cls k'))) (hW.noted hd hopen (State.rightAt_cls hl')) hcell hrest
        exact ⟨vm', hW', fun Q E d acts => by
          rw [List.cons_append, mz_entry hcov hy0 (hW.classLinks hl') hcell hobj ⟨y0, hy0'⟩ ⟨yt, hyt⟩ false (by rw [hW.alike.assignable]; exact hno), if_neg (by decide)]
          exact hq Q E d acts⟩
end MZC
