/-! THE INVOKING INSTRUCTIONS -/
theorem mv_split {st : List Value} {n : Nat} {vs : List Value} (h : (st.take n).reverse = vs) : st = vs.reverse ++ st.drop n := by
  rw [← h, List.reverse_reverse, List.take_append_drop]
theorem mv_map_rev (as : List Nat) (sd : Nat → Option Nat) (vs : List Value) : (vs.reverse).map (mv_v as sd) = (vs.map (mv_v as sd)).reverse := List.map_reverse ..
/-- what a call of z needs beside its link -/
def mv_Cl (g : mv_Gp) (y z : Nat) : Prop := mv_code (g.M z) ∈ g.G ∧ Cond.initialized (g.M z).nm.cls ∈ g.G ∧ (g.M z).fr + 1 ≤ (g.M y).fr ∧ 8 + ((g.M z).nL + 11) + (g.M z).lo ≤ (g.M y).lo ∧ ((g.M z).nm.cls ≠ "java/lang/invoke/MethodHandle" ∧ (g.M z).nm.cls ≠ "java/lang/invoke/VarHandle")
theorem mv_sig {Y : mv_Y} {a : Array Value} {U : State} (h : (mv_code Y).before a U = true) : ∃ mk meth, U.methodNamed? Y.nm = some mk ∧ U.vm.method? mk = some meth ∧ parseMethodDescriptor Y.nm.desc = some meth.sig := by
  unfold mv_code at h
  split at h
  · obtain ⟨mk, hn⟩ := Cond.code_named h
    obtain ⟨meth, c, h1, -, -, -, -, -, -, h5⟩ := Cond.code_spec hn h
    exact ⟨mk, meth, hn, h1, h5⟩
  · obtain ⟨m9, meth, c, hn9, h1, -, -, -, -, -, -, h5⟩ := Cond.codeWith_spec h
    exact ⟨m9, meth, hn9, h1, h5⟩
theorem mv_len {Y : mv_Y} {n : Nat} (hn : (parseMethodDescriptor Y.nm.desc).map (fun d => d.parameters.length) = some n) {sig : MethodDescriptor} (h : parseMethodDescriptor Y.nm.desc = some sig) : n = sig.parameters.length := by
  rw [h] at hn
  exact (Option.some.inj hn).symm
set_option maxHeartbeats 1000000 in
theorem mn_callV {g : mv_Gp} (hO : mv_Ok g) {y pc ci z n idx N : Nat} {C : String} {T0 : u_T} (hd : decode (g.M y).cc pc = .ok (.invokevirtual idx, 3)) (hc : g.cl[ci]? = some (C, T0, N)) (hH : mv_Hn g y pc) (hz : mv_Cl g y z) (hlk : Cond.methodLink (g.M y).nm.cls idx (g.M z).nm ∈ g.G) (him : Cond.instanceMethod (g.M z).nm ∈ g.G) (hse : Cond.selects C (g.M z).nm (g.M z).nm ∈ g.G)
    (hn : (parseMethodDescriptor (g.M z).nm.desc).map (fun d => d.parameters.length) = some n) : mv_Snd g y pc (mi_callV ci z (n + 1)) := by
  intro x hX L stk h r e hr c1 c2 c3 c4 as H locs ls hw hl
  unfold mi_callV at e
  dsimp only at e
  split at e
  · rename_i q vs hvs
    split at e
    · rename_i cj fs hq
      cases hcj : (Nat.beq cj ci && Nat.ble (n + 1) stk.length && Nat.ble (mv_cat (stk.drop (n + 1))) 8) with
      | false => rw [hcj] at e; cases e
      | true =>
        rw [hcj, cond_true] at e
        cases e
        simp only [Bool.and_eq_true] at hcj
        obtain ⟨⟨hj, hlen⟩, hcat⟩ := hcj
        have hj := Nat.eq_of_beq_eq_true hj
        subst hj
        have hts := hX.1.2.2.2.2.2.2.2.2.2
        have hst := mv_split hvs
        have hvl : vs.length = n := by
          have h9 := congrArg List.length hvs
          rw [List.length_reverse, List.length_take, List.length_cons] at h9
          have := Nat.le_of_ble_eq_true hlen
          omega
        refine mv_after hO hX hH c1 c2 hw hl (Nat.le_of_ble_eq_true hcat) hz.1 hz.2.1 hz.2.2.1 hz.2.2.2.1 hd ?_ hr
        intro T hT X
        obtain ⟨mk, methM, hnamed, hmethM, hstM, habM⟩ := Cond.instanceMethod_spec (hts _ him)
        obtain ⟨mk9, meth9, hnamed9, hmeth9, hsigM⟩ := mv_sig (hts _ hz.1)
        cases hnamed.symm.trans hnamed9
        cases hmethM.symm.trans hmeth9
        obtain ⟨cellB, hcell, hobj, hcls⟩ := va_recv hX.2.1.1 hw.2.2.1 hc (mv_w_at hw.1 hq)
        obtain ⟨c2', r2, m2, q1, q2, q3, q4, kP, hkP, hkPi⟩ := Cond.selects_spec (hts _ hse)
        cases hcls.symm.trans q1
        cases (State.methodFound?_of_named hnamed hz.2.2.2.2).symm.trans q2
        cases hnamed.symm.trans q3
        have hselP : selectMethod x.e.platform x.s.vm cellB.cls mk = .method mk := by rw [Launch.admits_selectMethod X.admits]; exact q4
        obtain ⟨vm₁, X₁, hstep₁⟩ := X.invokevirtual hX.1.1 hX.1.2.2.2.1 (hts _ hlk) hnamed hmethM hstM hkP hkPi hz.2.2.2.2 (a := as.getD q 0) (cell := cellB) (by rw [hT]; exact hcell)
          (fun z9 h9 => by rw [h9] at hobj; cases hobj) hselP hmethM habM hkP hkPi (g := F0 x.m pc ls (stk.map (mv_v as x.sd))) rfl (argsL := vs.map (mv_v as x.sd)) (rest := (stk.drop (n + 1)).map (mv_v as x.sd)) (by rw [List.length_map, hvl]; exact mv_len hn hsigM)
          (by show stk.map (mv_v as x.sd) = _; conv => lhs; rw [hst]
              rw [List.map_append, mv_map_rev, List.map_cons, List.reverse_cons, List.append_assoc]; rfl) (by rw [hX.1.2.1]; exact hd)
        exact ⟨vm₁, mk, X₁.warmed, X₁, X₁.named hnamed, fun target h9 => hstep₁ _ fun acts => by rw [doInvoke_state]; exact h9⟩
    · cases e
  · cases e
set_option maxHeartbeats 1000000 in
theorem mn_callS {g : mv_Gp} (hO : mv_Ok g) {y pc z n idx : Nat} (hd : decode (g.M y).cc pc = .ok (.invokestatic idx, 3)) (hH : mv_Hn g y pc) (hz : mv_Cl g y z) (hlk : Cond.methodLink (g.M y).nm.cls idx (g.M z).nm ∈ g.G) (hsm : Cond.static (g.M z).nm ∈ g.G)
    (hn : (parseMethodDescriptor (g.M z).nm.desc).map (fun d => d.parameters.length) = some n) : mv_Snd g y pc (mi_callS z n) := by
  intro x hX L stk h r e hr c1 c2 c3 c4 as H locs ls hw hl
  unfold mi_callS at e
  dsimp only at e
  cases hcj : (Nat.ble n stk.length && Nat.ble (mv_cat (stk.drop n)) 8) with
  | false => rw [hcj] at e; cases e
  | true =>
    rw [hcj, cond_true] at e
    cases e
    simp only [Bool.and_eq_true] at hcj
    obtain ⟨hlen, hcat⟩ := hcj
    have hts := hX.1.2.2.2.2.2.2.2.2.2
    have hst := mv_split (st := stk) (n := n) rfl
    refine mv_after hO hX hH c1 c2 hw hl (Nat.le_of_ble_eq_true hcat) hz.1 hz.2.1 hz.2.2.1 hz.2.2.2.1 hd ?_ hr
    intro T hT X
    obtain ⟨mk, methM, hnamed, hmethM, hsigM⟩ := mv_sig (hts _ hz.1)
    have hstatic : methM.isStatic = true := Cond.static_spec hnamed hmethM (hts _ hsm)
    obtain ⟨kP, hkP, -⟩ := className_of_methodNamed hnamed
    have hinitP : kP.init = .initialized := Cond.initialized_spec (findClass_of_methodNamed hnamed) hkP (hts _ hz.2.1)
    obtain ⟨vm₁, X₁, hstep₁⟩ := X.invokestatic hX.1.1 hX.1.2.2.2.1 (hts _ hlk) hnamed hmethM hstatic hkP hinitP hz.2.2.2.2 (g := F0 x.m pc ls (stk.map (mv_v as x.sd))) rfl (argsL := ((stk.take n).reverse).map (mv_v as x.sd)) (rest := (stk.drop n).map (mv_v as x.sd))
      (by rw [List.length_map, List.length_reverse, List.length_take, Nat.min_eq_left (Nat.le_of_ble_eq_true hlen)]; exact mv_len hn hsigM)
      (by show stk.map (mv_v as x.sd) = _; conv => lhs; rw [hst]
          rw [List.map_append, mv_map_rev]) (by rw [hX.1.2.1]; exact hd)
    exact ⟨vm₁, mk, X₁.warmed, X₁, X₁.named hnamed, fun target h9 => hstep₁ _ fun acts => by rw [doInvoke_state]; exact h9⟩
set_option maxHeartbeats 1000000 in
theorem mn_callI {g : mv_Gp} (hO : mv_Ok g) {y pc z n idx : Nat} {host : String} (hd : decode (g.M y).cc pc = .ok (.invokespecial idx, 3)) (hH : mv_Hn g y pc) (hz : mv_Cl g y z) (hlk : Cond.methodLink (g.M y).nm.cls idx (g.M z).nm ∈ g.G ∨ Cond.methodLinkNest (g.M y).nm.cls idx (g.M z).nm host ∈ g.G) (him : Cond.instanceMethod (g.M z).nm ∈ g.G)
    (hh : (g.M z).hh = []) (hret : (g.M z).ret = none) (hini : (g.M z).nm.name = "<init>") (hn : (parseMethodDescriptor (g.M z).nm.desc).map (fun d => d.parameters.length) = some n) : mv_Snd g y pc (mi_callI z (n + 1)) := by
  intro x hX L stk h r e hr c1 c2 c3 c4 as H locs ls hw hl
  unfold mi_callI at e
  dsimp only at e
  split at e
  · rename_i q vs hvs
    cases hcj : (Nat.ble (n + 1) stk.length && Nat.ble (mv_cat (stk.drop (n + 1))) 8) with
    | false => rw [hcj] at e; cases e
    | true =>
      rw [hcj, cond_true] at e
      cases e
      simp only [Bool.and_eq_true] at hcj
      obtain ⟨hlen, hcat⟩ := hcj
      have hts := hX.1.2.2.2.2.2.2.2.2.2
      have hst := mv_split hvs
      have hvl : vs.length = n := by
        have h9 := congrArg List.length hvs
        rw [List.length_reverse, List.length_take, List.length_cons] at h9
        have := Nat.le_of_ble_eq_true hlen
        omega
      have hcode : (Cond.code (g.M z).nm (g.M z).cc (g.M z).nL none).before x.args x.s = true := by
        have h9 := hts _ hz.1
        unfold mv_code at h9
        rw [hh] at h9
        dsimp only at h9
        rw [hret] at h9
        exact h9
      refine mv_after hO hX hH c1 c2 hw hl (Nat.le_of_ble_eq_true hcat) hz.1 hz.2.1 hz.2.2.1 hz.2.2.2.1 hd ?_ hr
      intro T hT X
      have hpl : x.e.platform.magicAccessors = ({} : Platform).magicAccessors := by rw [X.admits.platform]
      have hstk : (F0 x.m pc ls (stk.map (mv_v as x.sd))).stack = (vs.map (mv_v as x.sd)).reverse ++ .ref (as.getD q 0) :: (stk.drop (n + 1)).map (mv_v as x.sd) := by
        show stk.map (mv_v as x.sd) = _
        conv => lhs; rw [hst]
        rw [List.map_append, mv_map_rev, List.map_cons, List.reverse_cons, List.append_assoc]; rfl
      have hlen2 : ∀ sig, parseMethodDescriptor (g.M z).nm.desc = some sig → (vs.map (mv_v as x.sd)).length = sig.parameters.length := fun sig h9 => by rw [List.length_map, hvl]; exact mv_len hn h9
      have hdc : decode x.c.code (F0 x.m pc ls (stk.map (mv_v as x.sd))).pc = .ok (.invokespecial idx, 3) := by rw [hX.1.2.1]; exact hd
      rcases hlk with hlk | hlk
      · obtain ⟨mk, methM, cM, kP, vm₁, hnamed, -, -, -, -, -, -, -, hW₁, hstep₁⟩ := Steps.initColdArgs (e := x.e) X.here hX.1.1 X.warmed hpl hX.1.2.2.2.1 hini hz.2.2.2.2 (hts _ hlk) (hts _ him) hcode (f := F0 x.m pc ls (stk.map (mv_v as x.sd))) rfl hlen2 hstk hdc
        have X₁ := X.noted hW₁
        exact ⟨vm₁, mk, hW₁, X₁, X₁.named hnamed, fun target h9 => hstep₁ _ fun acts => by rw [doInvoke_state]; exact h9⟩
      · obtain ⟨mk, methM, cM, kP, vm₁, hnamed, -, -, -, -, -, -, -, hW₁, hstep₁⟩ := Steps.initColdArgsNest (e := x.e) X.here hX.1.1 X.warmed hpl hX.1.2.2.2.1 hini hz.2.2.2.2 (hts _ hlk) (hts _ him) hcode (f := F0 x.m pc ls (stk.map (mv_v as x.sd))) rfl hlen2 hstk hdc
        have X₁ := X.noted hW₁
        exact ⟨vm₁, mk, hW₁, X₁, X₁.named hnamed, fun target h9 => hstep₁ _ fun acts => by rw [doInvoke_state]; exact h9⟩
  · cases e
