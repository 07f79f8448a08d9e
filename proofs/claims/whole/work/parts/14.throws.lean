/-! THROWS OF THE SMALL MACHINE -/
/-- where a static field of references lies, in H -/
def mz_L (C n d : String) (A : Nat → Prop) (U : State) (H : Heap) : Prop := ∃ (c : ClassId) (k : Class) (i : Nat) (f : Field) (a : Nat) (cell : Cell) (v : Value), U.vm.findClass C = some c ∧ U.fieldFound? C n d = some (c, k, i, f) ∧ f.isStatic = true ∧ k.statics = some a ∧ H[a]? = some cell ∧ cell.vm.isStatics = true ∧ cell.cls = c ∧ f.slot < cell.slots.size ∧ k.staticTypes[f.slot]? = some f.type ∧ cell.slots[f.slot]? = some v ∧ v.isRef = true ∧ ¬ A a
theorem mz_L.moved {C n d : String} {A : Nat → Prop} {u U : State} {H : Heap} (hvm : u.vm.Alike U.vm) (h : mz_L C n d A u H) : mz_L C n d A U H := by
  obtain ⟨c, k, i, f, a, cell, v, h1, h2, h3, h4, h5, h6, h7, h8, h9, h10⟩ := h
  obtain ⟨k', hi', he⟩ := State.fieldFound?_setVm hvm h2
  exact ⟨c, k', i, f, a, cell, v, by rw [hvm.findClass]; exact h1, hi', h3, by rw [he]; exact h4, h5, h6, h7, h8, by rw [he]; exact h9, h10⟩
theorem mz_L.kept {C n d : String} {A : Nat → Prop} {U : State} {H H1 : Heap} (h : mz_L C n d A U H) (hq : ∀ a : Nat, a < H.size → ¬ A a → H1[a]? = H[a]?) : mz_L C n d A U H1 := by
  obtain ⟨c, k, i, f, a, cell, v, h1, h2, h3, h4, h5, h6, h7, h8, h9, h10, h11, h12⟩ := h
  exact ⟨c, k, i, f, a, cell, v, h1, h2, h3, h4, by rw [hq a (Array.getElem?_eq_some_iff.mp h5).1 h12]; exact h5, h6, h7, h8, h9, h10, h11, h12⟩
theorem mz_L.narrow {C n d : String} {A B : Nat → Prop} {U : State} {H : Heap} (h : mz_L C n d A U H) (hAB : ∀ q, B q → A q) : mz_L C n d B U H := by
  obtain ⟨c, k, i, f, a, cell, v, h1, h2, h3, h4, h5, h6, h7, h8, h9, h10, h11, h12⟩ := h
  exact ⟨c, k, i, f, a, cell, v, h1, h2, h3, h4, h5, h6, h7, h8, h9, h10, h11, fun z => h12 (hAB _ z)⟩
theorem mz_L.words {C n d : String} {A : Nat → Prop} {s : State} {args : Array Value} (h : mz_L C n d A s s.heap) : (Cond.isRef (.static C n d)).before args s = true ∧ (Cond.laysStatic C n d).before args s = true := by
  obtain ⟨c, k, i, f, a, cell, v, h1, h2, h3, h4, h5, h6, h7, h8, h9, h10, h11, -⟩ := h
  refine ⟨?_, Cond.laysStatic_of h1 h2 h3 h4 h5 h6 h7 h8 h9⟩
  have he : (Term.static C n d).eval args s none [] s = some v := by simp [Term.eval, State.fieldNamed?, h2, h3, h4, h5, h6, h10]
  simp only [Cond.before, Cond.holds, Cond.value, he]
  cases v <;> simp_all [Value.isRef]
theorem mz_L.of {args : Array Value} {s : State} {C n d : String} {A : Nat → Prop} (hl : (Cond.laysStatic C n d).before args s = true) (hr : (Cond.isRef (.static C n d)).before args s = true) (hA : ∀ a : Nat, a < s.heap.size → ¬ A a) : mz_L C n d A s s.heap := by
  obtain ⟨c, k, i, f, a, cell, h1, h2, h3, h4, h5, h6, h7, h8, h9⟩ := Cond.laysStatic_spec hl
  cases hv : (Term.static C n d).eval args s none [] s with
  | none => simp [Cond.before, Cond.holds, Cond.value, hv] at hr
  | some w =>
    obtain ⟨-, a', cell', ha', hcell', -, hslot⟩ := Term.static_spec h2 hv
    cases h4.symm.trans ha'
    cases h5.symm.trans hcell'
    refine ⟨c, k, i, f, a, cell, w, h1, h2, h3, h4, h5, h6, h7, h8, h9, hslot, ?_, hA a (Array.getElem?_eq_some_iff.mp h5).1⟩
    simp only [Cond.before, Cond.holds, Cond.value, hv] at hr
    cases w <;> simp_all [Value.isRef]
set_option maxHeartbeats 1000000 in
theorem mn_throw {g : mv_Gp} (hO : mv_Ok g) {y pc k ik is ic sk : Nat} {text : String} {names : List String}
    (d0 : decode (g.M y).cc pc = .ok (.new ik, 3)) (d3 : decode (g.M y).cc (pc + 3) = .ok (.dup, 1)) (d4 : decode (g.M y).cc (pc + 4) = .ok (.ldc is, 2)) (d6 : decode (g.M y).cc (pc + 6) = .ok (.invokespecial ic, 3)) (d9 : decode (g.M y).cc (pc + 9) = .ok (.athrow, 1))
    (hcls : Bundle.fit (g.exn k) = true) (hnames : ∀ n ∈ names, Bundle.fit n = true) (hk1 : Cond.classLink (g.M y).nm.cls ik (g.exn k) ∈ g.G) (hk2 : Cond.initialized (g.exn k) ∈ g.G) (hP1 : ∀ sd A U H, g.Ph sd A U H → ∃ a, sd sk = some a ∧ vk_R (g.M y).nm.cls is text a U)
    (hat : ∀ w ∈ Bundle.ownAtoms (g.M y).nm.cls ic (g.exn k) names, w ∈ g.G ∨ w ∈ mz_hw) (hP2 : ∀ sd A U H, g.Ph sd A U H → mz_L Bundle.tN "UNASSIGNED_STACK" Bundle.steD A U H ∧ mz_L Bundle.tN "SUPPRESSED_SENTINEL" Bundle.listD A U H)
    (hh : (g.M y).hh = []) (hfr : names.length + 3 < (g.M y).fr) (hlo : 13 * (names.length + 1) + 43 ≤ (g.M y).lo) : mv_Snd g y pc (mi_throw k) := by
  intro x hX L stk h r e hr c1 c2 c3 c4 as H locs ls hw hl
  unfold mi_throw at e
  dsimp only at e
  split at e
  · cases e
    obtain ⟨ho, hhf⟩ := hr
    have hts := hX.1.2.2.2.2.2.2.2.2.2
    have q1 := hX.2.2.1
    have q2 := hX.2.2.2.1
    have q3 := hX.2.2.2.2.1
    have q4 := hX.2.2.2.2.2.1
    have f1 : x.hf.2.1 = h.2.1 + 1 := by rw [hhf]
    have f2 : x.hf.2.2 = h.2.2 + 6 := by rw [hhf]
    intro T hT X
    have hW0 : x.s.WarmedH (mz_s x.s T x.m x.args x.below).vm := State.WarmedH.refl x.s
    have wd : ∀ w ∈ g.G, w.before x.args (mz_s x.s T x.m x.args x.below) = true := fun w hw' => hO.1 w hw' _ _ _ _ hW0 (hts w hw')
    have hPh := hO.2.1 _ _ _ (mz_s x.s T x.m x.args x.below) _ hW0 (hO.2.2.1 _ _ _ _ _ hX.2.1.2.1 hw.2.2.2.2.2.1)
    have hhp : (mz_s x.s T x.m x.args x.below).heap = H := hT
    rw [← hhp] at hPh
    obtain ⟨hL1, hL2⟩ := hP2 _ _ _ _ hPh
    obtain ⟨sa, -, hsa⟩ := hP1 _ _ _ _ hPh
    have wh : ∀ w ∈ mz_hw, w.before x.args (mz_s x.s T x.m x.args x.below) = true := by
      intro w hw'
      simp only [mz_hw, List.mem_cons, List.not_mem_nil, or_false] at hw'
      rcases hw' with rfl | rfl | rfl | rfl
      · exact hL1.words.1
      · exact hL2.words.1
      · exact hL1.words.2
      · exact hL2.words.2
    have htab : x.c.exceptionTable.toList = [] := by rw [mv_tab hX.1.2.2.2.2.2.2.2.1, hh]; rfl
    obtain ⟨U, q, ce, hsteps, hrun, hend, hW, hsame, hce, hcv, hcl, hsz, hold⟩ := mz_throw (T := T) (text := text) (names := names) (ik := ik) (is := is) (ic := ic) (sa := sa) (pc := pc) hX.1.1 hX.1.2.2.2.2.2.2.2.2.1 hX.1.2.2.2.1 hcls hnames X (wd _ hk1) (wd _ hk2) hsa.1 hsa.2
      (fun w hw' => (hat w hw').elim (wd w) (wh w)) (ls := ls) (by rw [hX.1.2.2.1]; exact hl.2.1) (by rw [hX.1.2.1]; exact d0) (by rw [hX.1.2.1]; exact d3) (by rw [hX.1.2.1]; exact d4) (by rw [hX.1.2.1]; exact d6) (by rw [hX.1.2.1]; exact d9) (by rw [htab]; intro z hz; cases hz) hX.1.2.2.2.2.1 (by omega) (by omega) (by omega) (by omega)
    rw [hT] at hsz hold
    refine ⟨U, hsteps, .threw q, hrun, hend, ?_, hW, locs, ?_, fun z hz => hX.2.1.2.2.2 _ (hw.2.2.2.2.2.2 z hz)⟩
    · refine hX.2.2.2.2.2.2.2 k as U q ce ho hce hcv hcl ⟨hw.2.1, by rw [hhf]; exact hw.1, ?_, by rw [hhf]; exact hw.2.2.2.1, Nat.le_trans hw.2.2.2.2.1 hsz, fun z h1 h2 => ?_⟩ hW.alike
      · rw [hhf]
        exact hw.2.2.1.kept (fun k9 z hk9 => hold z.1 ((hw.2.2.1 k9 z hk9).lt))
      · rw [hold z (Nat.lt_of_lt_of_le h1 hw.2.2.2.2.1)]
        exact hw.2.2.2.2.2.1 z h1 h2
    · rw [f1, f2, show h.2.1 + 1 - x.c0 = h.2.1 - x.c0 + 1 by omega, show h.2.2 + 6 - x.s0 = h.2.2 - x.s0 + 6 by omega]
      exact hsame
  · cases e
