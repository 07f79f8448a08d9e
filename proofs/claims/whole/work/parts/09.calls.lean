/-! CALLS OF THE SMALL MACHINE -/
/-- the words ride along, and so does what stands outside -/
def mv_Ok (g : mv_Gp) : Prop := (∀ w ∈ g.G, ∀ (a a' : Array Value) (s U : State), s.WarmedH U.vm → w.before a s = true → w.before a' U = true) ∧
  (∀ sd A (s U : State) H, s.WarmedH U.vm → g.Ph sd A s H → g.Ph sd A U H) ∧ (∀ sd A s H H1, g.Ph sd A s H → (∀ a : Nat, a < H.size → ¬ A a → H1[a]? = H[a]?) → g.Ph sd A s H1) ∧ (∀ sd A B s H, g.Ph sd A s H → (∀ q, B q → A q) → g.Ph sd B s H)
theorem mv_blind {g : mv_Gp} (hO : mv_Ok g) {D : va_G} {cA : Nat → ClassId} {sd : Nat → Option Nat} {as : List Nat} {h : mv_H} {vs : List Value} {sz : Nat} : FrameBlind (mv_Pc g D cA sd as h vs sz) := by
  intro a U f mk q
  obtain ⟨q0, q1, q2, q3, q4, q5, q6, q7⟩ := q
  have hW : U.WarmedH (U.calling f mk a).vm := State.WarmedH.refl U
  exact ⟨q0, q1, q2, fun w hw => hO.1 w hw _ _ _ _ hW (q3 w hw), va_K.moved (u := U) (U := U.calling f mk a) (Vm.Alike.refl U.vm) q4, hO.2.1 _ _ _ _ _ hW q5, q6, q7⟩
theorem mv_sub {g : mv_Gp} {y : Nat} {x : mv_Cx} {as : List Nat} {h : mv_H} {H : Heap} {locs : List Loc} (hX : mv_X g y x) (hw : mv_Wr g x as h H locs) : ∀ q, va_A (mv_w as x.sd x.cA h.1) H.size q → x.A q := by
  intro q hq
  rcases hq with ⟨k, e, hk⟩ | hq
  · exact hw.2.2.2.1.2 k (q, e) hk
  · exact hX.2.1.2.2.1 q (Nat.le_trans hw.2.2.2.2.1 hq)
/-- a callee's start, out of the caller's world -/
theorem mv_pre {g : mv_Gp} (hO : mv_Ok g) {y : Nat} {x : mv_Cx} {as : List Nat} {h : mv_H} {H : Heap} {locs : List Loc} (hX : mv_X g y x) (hw : mv_Wr g x as h H locs) (vs : List Value) : ∀ U : State, U.heap = H → x.s.WarmedH U.vm → mv_Pc g x.D x.cA x.sd as h vs H.size (vs.map (mv_v as x.sd)).toArray U := by
  intro U hU hW
  have hP := hO.2.2.2 _ _ _ _ _ (hO.2.2.1 _ _ _ _ _ hX.2.1.2.1 hw.2.2.2.2.2.1) (mv_sub hX hw)
  exact ⟨rfl, by rw [hU], hw.1, fun w hw' => hO.1 w hw' _ _ _ _ hW (hX.1.2.2.2.2.2.2.2.2.2 w hw'), va_K.moved hW.alike hX.2.1.1, by rw [hU]; exact hO.2.1 _ _ _ _ _ hW hP, by rw [hU]; exact hw.2.2.1, hw.2.2.2.1.weaken (fun _ _ _ _ => trivial)⟩
theorem mv_ok_use {as as2 : List Nat} {h h2 : mv_H} {f : mv_F} {sd : Nat → Option Nat} {ls : Array Slot} {nL : Nat} (hp : as <+: as2) (h1 : as.length = h.1.length) (h3 : as2.length = h2.1.length) (hk : mv_ok h h2 f = true) (hl : mv_L as sd ls nL f.2.1) : mv_L as2 sd ls nL f.2.1 ∧ f.2.2.map (mv_v as2 sd) = f.2.2.map (mv_v as sd) := by
  obtain ⟨t, ht⟩ := hp
  simp only [mv_ok, Bool.or_eq_true, Bool.and_eq_true] at hk
  rcases hk with hk | ⟨k1, k2⟩
  · have hk := Nat.eq_of_beq_eq_true hk
    have : t = [] := by
      rw [← ht, List.length_append] at h3
      exact List.eq_nil_of_length_eq_zero (by omega)
    subst this
    rw [List.append_nil] at ht
    subst ht
    exact ⟨hl, rfl⟩
  · rw [← h1] at k1 k2
    rw [← ht]
    exact ⟨hl.app k1, mv_s_app k2⟩
/-- what is thrown over pc, and caught: the row of the table, its class, the store that its handler begins with -/
abbrev mv_ent (t : Nat × Nat × Nat × Nat) : ExceptionTableEntry := ⟨t.1, t.2.1, t.2.2.1, t.2.2.2⟩
def mv_Hd (g : mv_Gp) (y pc k pc' i : Nat) : Prop := ∃ (pre suf : List (Nat × Nat × Nat × Nat)) (ent : Nat × Nat × Nat × Nat) (name : String), (g.M y).hh = pre ++ ent :: suf ∧
  (∀ z ∈ pre, covers (mv_ent z) pc = false ∨ (z.2.2.2 ≠ 0 ∧ ∃ nm : String, Cond.classLink (g.M y).nm.cls z.2.2.2 nm ∈ g.G ∧ ∀ sd A U H, g.Ph sd A U H → va_Nc (g.exn k) nm U)) ∧ covers (mv_ent ent) pc = true ∧ ent.2.2.2 ≠ 0 ∧
  Cond.classLink (g.M y).nm.cls ent.2.2.2 name ∈ g.G ∧ Cond.castable (g.exn k) name ∈ g.G ∧ i < (g.M y).nL ∧
  ((∃ j : Fin 4, (j : Nat) = i ∧ decode (g.M y).cc ent.2.2.1 = .ok (.astore_n j, 1) ∧ pc' = ent.2.2.1 + 1) ∨ (decode (g.M y).cc ent.2.2.1 = .ok (.astore i, 2) ∧ pc' = ent.2.2.1 + 2))
def mv_Hn (g : mv_Gp) (y pc : Nat) : Prop := (∀ k pc' i, g.X y pc k = some (some (pc', i)) → mv_Hd g y pc k pc' i) ∧ ∀ k, g.X y pc k = some none → ∀ z ∈ (g.M y).hh, covers (mv_ent z) pc = false
theorem mv_Hn.none {g : mv_Gp} {y pc : Nat} (h : (g.M y).hh = []) (hX : ∀ k, g.X y pc k = some none) : mv_Hn g y pc := by
  refine ⟨fun k pc' i e => ?_, fun k _ z hz => ?_⟩
  · rw [hX k] at e; cases e
  · rw [h] at hz; cases hz
theorem mv_tab {c : Code} {hh : List (Nat × Nat × Nat × Nat)} (h : c.exceptionTable.toList.map (fun h => (h.startPc, h.endPc, h.handlerPc, h.catchType)) = hh) : c.exceptionTable.toList = hh.map mv_ent := by
  rw [← h, List.map_map]
  conv => lhs; rw [← List.map_id c.exceptionTable.toList]
  rfl
theorem mv_L.drop1 {as : List Nat} {sd : Nat → Option Nat} {ls ls' : Array Slot} {nL i : Nat} {q : Nat} {L : List (Option Value)} (hl : mv_L as sd ls nL L)
    (h : lv_has ls' nL ((i, Value.ref q) :: (mv_al as sd L).filter (fun z => !(z.1 == i) && !(z.1 + 1 == i && z.2.category == 2)))) : mv_L as sd ls' nL ((mv_cl L i).set i none) := by
  refine ⟨by rw [List.length_set, mv_cl_len]; exact hl.1, h.1, h.2.1, fun j w hj => ?_⟩
  by_cases hij : i = j
  · subst hij
    by_cases hlt : i < (mv_cl L i).length
    · rw [List.getElem?_set_self hlt] at hj; cases hj
    · rw [List.getElem?_eq_none (by simpa using hlt)] at hj; cases hj
  · rw [List.getElem?_set_ne hij] at hj
    obtain ⟨h1, h2⟩ := mv_cl_at hj
    refine h.2.2 (j, mv_v as sd w) (List.mem_cons_of_mem _ (List.mem_filter.mpr ⟨mv_al_mem h1, ?_⟩))
    rw [mv_v_cat]
    have a1 : (j == i) = false := by simpa using fun q => hij q.symm
    have a2 : (j + 1 == i && w.category == 2) = false := by
      cases hb : (j + 1 == i && w.category == 2) with
      | false => rfl
      | true => simp at hb; exact absurd hb h2
    rw [a1, a2]; rfl
/-- the invoking instruction's own step -/
def mv_Inv (x : mv_Cx) (pc : Nat) (ls : Array Slot) (st rest : List Value) (zn : MethodName) (a : Array Value) (H : Heap) (locs : List Loc) (k n : Nat) : Prop :=
  ∀ T : State, T.heap = H → Stand x.p x.l x.e x.R x.s x.m x.args x.below x.meth x.c T locs k n → ∃ (vm₁ : Vm) (mk : MethodId), x.s.WarmedH vm₁ ∧ Stand x.p x.l x.e x.R x.s x.m x.args x.below x.meth x.c (T.setVm vm₁) locs k n ∧ (T.setVm vm₁).methodNamed? zn = some mk ∧
    ∀ target, Steps x.p.tables x.e x.below (doInvoke x.e ((T.setVm vm₁).setTop (F0 x.m pc ls rest)) [] mk a).1 target → Steps x.p.tables x.e x.below (T.setTop (F0 x.m pc ls st)) target
theorem mv_cat_map (as : List Nat) (sd : Nat → Option Nat) : ∀ st : List Value, ((st.map (mv_v as sd)).map fun v => v.category).sum = mv_cat st
  | [] => rfl
  | v :: r => by simp only [List.map_cons, List.sum_cons, mv_cat, mv_v_cat, mv_cat_map as sd r]
theorem mv_code_at {Y : mv_Y} {a : Array Value} {U : State} {mk : MethodId} (hn : U.methodNamed? Y.nm = some mk) (h : (mv_code Y).before a U = true) : ∃ methY cY, U.vm.method? mk = some methY ∧ methY.code = some cY ∧ cY.maxLocals = Y.nL := by
  unfold mv_code at h
  split at h
  · obtain ⟨meth, c, h1, h2, -, h4, -⟩ := Cond.code_spec hn h
    exact ⟨meth, c, h1, h2, h4⟩
  · obtain ⟨m9, meth, c, hn9, h1, h2, -, h4, -⟩ := Cond.codeWith_spec h
    cases hn.symm.trans hn9
    exact ⟨meth, c, h1, h2, h4⟩
set_option maxHeartbeats 2000000 in
theorem mv_after {g : mv_Gp} (hO : mv_Ok g) {y pc z : Nat} {x : mv_Cx} (hX : mv_X g y x) (hH : mv_Hn g y pc) {vs rest st : List Value} {h : mv_H} {L : List (Option Value)} {as : List Nat} {H : Heap} {locs : List Loc} {ls : Array Slot} {ig : Instr}
    (c1 : x.c0 ≤ h.2.1) (c2 : x.s0 ≤ h.2.2) (hw : mv_Wr g x as h H locs) (hl : mv_L as x.sd ls (g.M y).nL L) (hcat : mv_cat rest ≤ 8) (hz1 : mv_code (g.M z) ∈ g.G) (hz2 : Cond.initialized (g.M z).nm.cls ∈ g.G)
    (hfr : (g.M z).fr + 1 ≤ (g.M y).fr) (hlo : 8 + ((g.M z).nL + 11) + (g.M z).lo ≤ (g.M y).lo) (hd : decode (g.M y).cc pc = .ok (ig, 3))
    (hinv : mv_Inv x pc ls st (rest.map (mv_v as x.sd)) (g.M z).nm (vs.map (mv_v as x.sd)).toArray H locs (h.2.1 - x.c0) (h.2.2 - x.s0)) (hq : mv_Cq g y x pc z vs (pc + 3, L, rest) h) :
    mv_W x H locs (h.2.1 - x.c0) (h.2.2 - x.s0) (F0 x.m pc ls st) := by
  obtain ⟨o2, h2, b1, b2, b3, b4, hM, k1, k2⟩ := hq
  intro T hT X
  obtain ⟨vm₁, mk, hW₁, X₁, hn, hst⟩ := hinv T hT X
  have hts := hX.1.2.2.2.2.2.2.2.2.2
  have r1 := hX.2.2.1
  have r2 := hX.2.2.2.1
  have r3 := hX.2.2.2.2.1
  have r4 := hX.2.2.2.2.2.1
  have hword : ∀ (a' : Array Value), (mv_code (g.M z)).before a' (T.setVm vm₁) = true := fun a' => hO.1 _ hz1 _ _ _ _ hW₁ (hts _ hz1)
  have hini : ∀ (a' : Array Value), (Cond.initialized (g.M z).nm.cls).before a' (T.setVm vm₁) = true := fun a' => hO.1 _ hz2 _ _ _ _ hW₁ (hts _ hz2)
  have hdc : decode x.c.code pc = .ok (ig, 3) := by rw [hX.1.2.1]; exact hd
  obtain ⟨oc, t, L9, hE, hL9, X2, hsteps⟩ := mz_call (maxL := (g.M z).nL) (hM x.D x.cA x.sd as H.size) (mv_blind hO) X₁ (f := F0 x.m pc ls (rest.map (mv_v as x.sd))) rfl (by rw [hX.1.2.2.1]; exact hl.2.1) hdc hn (hword _) (mv_code_at hn (hword (vs.map (mv_v as x.sd)).toArray)) (hini _)
    (by show (g.M z).fr + 1 ≤ _; omega) (by show 2 * 0 + ((rest.map (mv_v as x.sd)).map fun v => v.category).sum + _ + (g.M z).lo ≤ _; rw [mv_cat_map]; omega) (by show _ + (h2.2.1 - h.2.1) ≤ _; omega) (by show _ + (h2.2.2 - h.2.2) ≤ _; omega) (mv_pre hO hX hw vs (T.setVm vm₁) hT hW₁)
  have e1 : h.2.1 - x.c0 + (h2.2.1 - h.2.1) = h2.2.1 - x.c0 := by omega
  have e2 : h.2.2 - x.s0 + (h2.2.2 - h.2.2) = h2.2.2 - x.s0 := by omega
  have hA1 := mv_sub hX hw
  have world : ∀ as2, mv_Nd g x.D x.cA x.sd (va_A (mv_w as x.sd x.cA h.1) H.size) as h2 ((T.setVm vm₁).calling (F0 x.m pc ls (rest.map (mv_v as x.sd))) mk (vs.map (mv_v as x.sd)).toArray) t as2 → mv_Wr g x as2 h2 t.heap (locs ++ L9) := by
    intro as2 hnd
    obtain ⟨n1, n2, n3, n4, n5, n6⟩ := hnd
    have n5' : H.size ≤ t.heap.size := by rw [← hT]; exact n5
    have n6' : ∀ q : Nat, q < H.size → ¬ va_A (mv_w as x.sd x.cA h.1) H.size q → t.heap[q]? = H[q]? := by
      intro q h1 h3
      have k9 : t.heap[q]? = T.heap[q]? := n6 q (show q < T.heap.size by rw [hT]; exact h1) h3
      rw [k9, hT]
    refine ⟨n2, hw.2.1.trans n1, n3, n4.weaken (fun _ q _ hq => hA1 _ hq), Nat.le_trans hw.2.2.2.2.1 n5', fun q h1 h3 => ?_, fun q hq => ?_⟩
    · rw [n6' q (Nat.lt_of_lt_of_le h1 hw.2.2.2.2.1) (fun hq => h3 (hA1 q hq))]
      exact hw.2.2.2.2.2.1 q h1 h3
    · rcases List.mem_append.mp hq with hq | hq
      · exact hw.2.2.2.2.2.2 q hq
      · exact hA1 _ (hL9 q hq)
  rw [show (mv_rm (g.M z) h h2).cells = h2.2.1 - h.2.1 from rfl, show (mv_rm (g.M z) h h2).slots = h2.2.2 - h.2.2 from rfl, e1, e2] at X2
  rcases hE with ⟨v, as2, ho, hv, hnd⟩ | ⟨k, as2, q, ce, ho, hoc, hce, hcv, hcl, hnd⟩
  · subst hv
    dsimp only at hsteps
    obtain ⟨hok, hG⟩ := k1 v ho
    obtain ⟨hl2, hs2⟩ := mv_ok_use hnd.1 hw.1 hnd.2.1 hok hl
    have wr2 := world as2 hnd
    obtain ⟨tt, a1, bb⟩ := hG (Nat.le_trans c1 b1) (Nat.le_trans c2 b2) b3 b4 as2 t.heap (locs ++ L9) ls wr2 hl2 (mz_U (T.setVm vm₁) t) rfl X2
    have es : (v.toList ++ rest).map (mv_v as2 x.sd) = (v.map (mv_v as2 x.sd)).toList ++ rest.map (mv_v as x.sd) := by
      rw [List.map_append, hs2]
      cases v <;> rfl
    dsimp only at a1
    rw [es] at a1
    exact ⟨tt, hst _ (hsteps.trans a1), bb⟩
  · subst hoc
    dsimp only at hsteps
    have wr2 := world as2 hnd
    have hcl' : x.s.vm.findClass (g.exn k) = some ce.cls := by
      have h9 : vm₁.findClass (g.exn k) = some ce.cls := hcl
      rw [hW₁.alike.findClass] at h9
      exact h9
    rcases k2 k ho with ⟨hXn, ho2, hh2⟩ | ⟨pc', i, hXk, hok, hG⟩
    · have hno := hH.2 k hXn
      obtain ⟨st1, hrun, hend, hWW, hsm⟩ := X2.leaveThrown q (g := F0 x.m pc ls (rest.map (mv_v as x.sd))) rfl rfl rfl (by
        rw [mv_tab hX.1.2.2.2.2.2.2.2.1]
        intro z9 hz9
        obtain ⟨u, hu, rfl⟩ := List.mem_map.mp hz9
        exact hno u hu) hX.1.2.2.2.2.1
      refine ⟨_, hst _ (hsteps.trans st1), .threw q, hrun, hend, ?_, hWW, locs ++ L9, ?_, fun z9 hz9 => hX.2.1.2.2.2 _ (wr2.2.2.2.2.2.2 z9 hz9)⟩
      · exact hX.2.2.2.2.2.2.2 k as2 _ q ce ho2 (show t.heap[q]? = some ce from hce) hcv hcl' (by rw [hh2]; exact mv_nd wr2 rfl) hWW.alike
      · rw [hh2]; exact hsm
    · obtain ⟨hl2, hs2⟩ := mv_ok_use hnd.1 hw.1 hnd.2.1 hok hl
      obtain ⟨pre, suf, ent, name, hsplit, hpre, hcov, hct, hw1, hw2, hi, hast⟩ := hH.1 k pc' i hXk
      have hpl : x.e.platform.magicAccessors = ({} : Platform).magicAccessors := by rw [X.admits.platform]
      obtain ⟨c3, c4, hc3, hc4, hasg⟩ := Cond.castable_spec (hts _ hw2)
      cases Option.some.inj (hc3.symm.trans hcl')
      obtain ⟨c5, hc5, hcl5⟩ := Cond.classLink_spec hX.1.2.2.2.1 (hts _ hw1) x.e.platform hpl
      cases Option.some.inj (hc4.symm.trans hc5)
      obtain ⟨vm2, hW2, hgo⟩ := mz_search (e := x.e) (f := F0 x.m pc ls (rest.map (mv_v as x.sd))) (a := q) (s₀ := x.s) (cell := ce) (fun z9 => by rw [hcv]; exact fun e9 => by cases e9) (by obtain ⟨k9, h9, -⟩ := Vm.findClass_spec hcl'; exact ⟨k9, h9⟩) (mv_ent ent) (suf.map mv_ent) hcov hct hcl5 hasg
        (pre.map mv_ent) (((mz_U (T.setVm vm₁) t).setTop (F0 x.m pc ls (rest.map (mv_v as x.sd)))).pushFrame (.throwing q)) X2.warmed hce (fun y9 hy9 => by
          obtain ⟨u, hu, rfl⟩ := List.mem_map.mp hy9
          rcases hpre u hu with h9 | ⟨h9, nm, hl9, hn9⟩
          · exact Or.inl h9
          · obtain ⟨c6, hc6, hcl6⟩ := Cond.classLink_spec hX.1.2.2.2.1 (hts _ hl9) x.e.platform hpl
            obtain ⟨a8, b8, q1, q2, q3⟩ := hn9 _ _ _ _ hX.2.1.2.1
            cases Option.some.inj (q1.symm.trans hcl')
            cases Option.some.inj (q2.symm.trans hc6)
            exact Or.inr ⟨h9, _, hcl6, q3⟩)
      have hF : mz_F x.e (((mz_U (T.setVm vm₁) t).setTop (F0 x.m pc ls (rest.map (mv_v as x.sd)))).pushFrame (.throwing q)) (F0 x.m pc ls (rest.map (mv_v as x.sd))) q (.found (mv_ent ent).handlerPc) vm2 := by
        intro Q E d acts
        rw [W.findHandler_eq (meth := x.meth) (code := x.c) X2.method' X2.code, mv_tab hX.1.2.2.2.2.2.2.2.1, hsplit, List.map_append, List.map_cons]
        exact hgo Q E d acts
      have X3 := X2.noted hW2
      have hW3 : mv_W x t.heap (locs ++ L9) (h2.2.1 - x.c0) (h2.2.2 - x.s0) (F0 x.m ent.2.2.1 ls [.ref q]) := by
        rcases hast with ⟨j, hj, hdj, rfl⟩ | ⟨hdj, rfl⟩
        · exact lv_astore_n hX.1.1 hX.1.2.1 hdj hj hl2.has hi rfl (fun ls' h' => hG (Nat.le_trans c1 b1) (Nat.le_trans c2 b2) b3 b4 as2 t.heap (locs ++ L9) ls' wr2 (hl2.drop1 h'))
        · exact lv_astore hX.1.1 hX.1.2.1 hdj hl2.has hi rfl (fun ls' h' => hG (Nat.le_trans c1 b1) (Nat.le_trans c2 b2) b3 b4 as2 t.heap (locs ++ L9) ls' wr2 (hl2.drop1 h'))
      obtain ⟨tt, a1, bb⟩ := hW3 ((mz_U (T.setVm vm₁) t).setVm vm2) rfl X3
      exact ⟨tt, hst _ (hsteps.trans (mz_caught (f := F0 x.m pc ls (rest.map (mv_v as x.sd))) X2.here hF a1)), bb⟩
