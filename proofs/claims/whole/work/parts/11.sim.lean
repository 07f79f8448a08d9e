/-! THE SMALL MACHINE IS SOUND: what it runs to, the machine runs to -/
def mv_Rh : mv_R → mv_H
  | .inl (_, h) => h
  | .inr (.inl (_, h)) => h
  | .inr (.inr (_, _, _, h)) => h
/-- cells and slots are only made -/
def mv_Mn (st : mv_S) : Prop := ∀ f h r, st f h = some r → h.2.1 ≤ (mv_Rh r).2.1 ∧ h.2.2 ≤ (mv_Rh r).2.2
theorem mv_mono {P : mv_P} (hm : ∀ y pc st, P.1 y pc = some st → mv_Mn st) : ∀ (n y : Nat) (f : mv_F) (h : mv_H) (r : mv_O × mv_H), mv_x P n y f h = some r → h.2.1 ≤ r.2.2.1 ∧ h.2.2 ≤ r.2.2.2 := by
  intro n
  induction n with
  | zero => intro y f h r hr; simp [mv_x] at hr
  | succ n ih =>
    intro y f h r hr
    rw [mv_x] at hr
    cases hp : P.1 y f.1 with
    | none => simp [hp] at hr
    | some s =>
      simp only [hp] at hr
      cases hs : s f h with
      | none => simp [hs] at hr
      | some q =>
        simp only [hs] at hr
        have hq := hm y f.1 s hp f h q hs
        match q, hr, hq with
        | .inl (f', h'), hr, hq =>
          have := ih _ _ _ _ hr
          dsimp only [mv_Rh] at hq
          exact ⟨Nat.le_trans hq.1 this.1, Nat.le_trans hq.2 this.2⟩
        | .inr (.inl r'), hr, hq =>
          cases hr
          exact hq
        | .inr (.inr (z, vs, f', h')), hr, hq =>
          dsimp only [mv_Rh] at hq
          dsimp only at hr
          cases hbn : Nat.ble (mv_lay vs).length (P.2.1 z) with
          | false => rw [hbn] at hr; simp at hr
          | true =>
          rw [hbn, cond_true] at hr
          cases hz : mv_x P n z (0, mv_entry (P.2.1 z) vs, []) h' with
          | none => simp [hz] at hr
          | some u =>
            rw [hz] at hr
            have hu := ih _ _ _ _ hz
            match u, hr, hu with
            | (.inl v, h''), hr, hu =>
              dsimp only at hr hu
              cases hk : mv_ok h' h'' f' with
              | false => simp [hk] at hr
              | true =>
                simp only [hk, cond_true] at hr
                have := ih _ _ _ _ hr
                exact ⟨Nat.le_trans hq.1 (Nat.le_trans hu.1 this.1), Nat.le_trans hq.2 (Nat.le_trans hu.2 this.2)⟩
            | (.inr x, h''), hr, hu =>
              dsimp only at hr hu
              cases hX : P.2.2 y f.1 x with
              | none => simp [hX] at hr
              | some pi =>
                cases pi with
                | none =>
                  simp only [hX] at hr
                  cases hr
                  exact ⟨Nat.le_trans hq.1 hu.1, Nat.le_trans hq.2 hu.2⟩
                | some pi =>
                obtain ⟨pc, i⟩ := pi
                simp only [hX] at hr
                cases hk : mv_ok h' h'' f' with
                | false => simp [hk] at hr
                | true =>
                  simp only [hk, cond_true] at hr
                  have := ih _ _ _ _ hr
                  exact ⟨Nat.le_trans hq.1 (Nat.le_trans hu.1 this.1), Nat.le_trans hq.2 (Nat.le_trans hu.2 this.2)⟩
/-- a method's locals at its start -/
theorem mv_lay_len (as : List Nat) (sd : Nat → Option Nat) : ∀ vs : List Value, (lg_sl (vs.map (mv_v as sd))).length = (mv_lay vs).length
  | [] => rfl
  | v :: r => by
    have ih := mv_lay_len as sd r
    unfold lg_sl at ih ⊢
    rw [List.map_cons, List.flatMap_cons, List.length_append, ih, mv_v_cat]
    cases v <;> simp [mv_lay, Value.category] <;> omega
theorem mv_lay_mem (as : List Nat) (sd : Nat → Option Nat) : ∀ (vs : List Value) (b i : Nat) (v : Value), (mv_lay vs)[i]? = some (some v) → (b + i, mv_v as sd v) ∈ lv_args b (vs.map (mv_v as sd))
  | [], b, i, v, h => by simp [mv_lay] at h
  | w :: r, b, 0, v, h => by
    simp only [mv_lay, List.getElem?_cons_zero, Option.some.injEq] at h
    subst h
    exact List.mem_cons_self
  | w :: r, b, i + 1, v, h => by
    simp only [List.map_cons, lv_args, mv_v_cat]
    refine List.mem_cons_of_mem _ ?_
    cases w with
    | long z =>
      simp only [mv_lay, List.getElem?_cons_succ] at h
      cases i with
      | zero => simp at h
      | succ i =>
        simp only [List.getElem?_cons_succ] at h
        have := mv_lay_mem as sd r (b + 2) i v h
        simpa [Value.category, Nat.add_assoc, Nat.add_comm, Nat.add_left_comm] using this
    | double z =>
      simp only [mv_lay, List.getElem?_cons_succ] at h
      cases i with
      | zero => simp at h
      | succ i =>
        simp only [List.getElem?_cons_succ] at h
        have := mv_lay_mem as sd r (b + 2) i v h
        simpa [Value.category, Nat.add_assoc, Nat.add_comm, Nat.add_left_comm] using this
    | int z =>
      simp only [mv_lay, List.getElem?_cons_succ] at h
      have := mv_lay_mem as sd r (b + 1) i v h
      simpa [Value.category, Nat.add_assoc, Nat.add_comm, Nat.add_left_comm] using this
    | float z =>
      simp only [mv_lay, List.getElem?_cons_succ] at h
      have := mv_lay_mem as sd r (b + 1) i v h
      simpa [Value.category, Nat.add_assoc, Nat.add_comm, Nat.add_left_comm] using this
    | null =>
      simp only [mv_lay, List.getElem?_cons_succ] at h
      have := mv_lay_mem as sd r (b + 1) i v h
      simpa [Value.category, Nat.add_assoc, Nat.add_comm, Nat.add_left_comm] using this
    | ref z =>
      simp only [mv_lay, List.getElem?_cons_succ] at h
      have := mv_lay_mem as sd r (b + 1) i v h
      simpa [Value.category, Nat.add_assoc, Nat.add_comm, Nat.add_left_comm] using this
    | retAddr z =>
      simp only [mv_lay, List.getElem?_cons_succ] at h
      have := mv_lay_mem as sd r (b + 1) i v h
      simpa [Value.category, Nat.add_assoc, Nat.add_comm, Nat.add_left_comm] using this
theorem mv_L_entry {as : List Nat} {sd : Nat → Option Nat} {vs : List Value} {n : Nat} (h : (mv_lay vs).length ≤ n) : mv_L as sd ((lg_sl (vs.map (mv_v as sd)) ++ List.replicate (n - (lg_sl (vs.map (mv_v as sd))).length) Slot.unset).toArray) n (mv_entry n vs) := by
  have hl := lv_entry (vs.map (mv_v as sd)) (n := n) (by rw [mv_lay_len]; exact h)
  refine ⟨by unfold mv_entry; rw [List.length_append, List.length_replicate]; omega, hl.1, hl.2.1, fun i v hi => ?_⟩
  unfold mv_entry at hi
  by_cases hlt : i < (mv_lay vs).length
  · rw [List.getElem?_append_left hlt] at hi
    have := mv_lay_mem as sd vs 0 i v hi
    rw [Nat.zero_add] at this
    exact hl.2.2 _ this
  · rw [List.getElem?_append_right (by omega)] at hi
    rw [List.getElem?_replicate] at hi
    split at hi <;> cases hi
/-- the tables of steps are sound -/
def mv_Pok (g : mv_Gp) (P : mv_P) : Prop := (∀ y pc st, P.1 y pc = some st → mv_Snd g y pc st ∧ mv_Mn st) ∧ (∀ z, P.2.1 z = (g.M z).nL) ∧ (∀ y pc k, P.2.2 y pc k = g.X y pc k) ∧ ∀ z, plainFor (g.M z).nm = true
theorem mv_met {g : mv_Gp} (hO : mv_Ok g) {l : Launch} (hl : l.stackTraces = false) {z : Nat} {vs : List Value} {h h2 : mv_H} {o : mv_O} (hpl : plainFor (g.M z).nm = true) (hm1 : h.2.1 ≤ h2.2.1) (hm2 : h.2.2 ≤ h2.2.2) (hlay : (mv_lay vs).length ≤ (g.M z).nL)
    (hsim : ∀ x : mv_Cx, mv_X g z x → x.l = l → x.o = o → x.hf = h2 → mv_G g (g.M z).nL x (0, mv_entry (g.M z).nL vs, []) h) : mv_Mt g l z vs h o h2 := by
  intro D cA sd as sz
  refine MetFree.of_bodySF (code := (g.M z).cc) (maxLocals := (g.M z).nL) (ret := (g.M z).ret) hpl ?_ ?_
  · intro args s m hp hn
    have hw := atoms_spec (ws := [mv_code (g.M z)]) hp _ List.mem_cons_self
    unfold mv_code at hw
    split at hw
    · obtain ⟨meth, c, h1, h2, h3, h4, h5, h6, -, -⟩ := Cond.code_spec hn hw
      exact ⟨meth, c, h1, h2, h3, h4, h5, h6⟩
    · obtain ⟨m9, meth, c, hn9, h1, h2, h3, h4, -, h5, h6, -⟩ := Cond.codeWith_spec hw
      cases hn.symm.trans hn9
      exact ⟨meth, c, h1, h2, h3, h4, h5, h6⟩
  · intro p e s m args below meth c s₁ B hml hPc _
    obtain ⟨rfl, hsz, hlen, hG, hK, hPh, hPP, hDD⟩ := hPc
    have hw := atoms_spec (ws := [mv_code (g.M z)]) B.pre _ List.mem_cons_self
    have htab : c.exceptionTable.toList.map (fun h => (h.startPc, h.endPc, h.handlerPc, h.catchType)) = (g.M z).hh := by
      have hcode := (Stand.of_body B).code
      unfold mv_code at hw
      split at hw
      · rename_i hh0
        obtain ⟨meth9, c9, h1, h2, -, -, -, -, h7, -⟩ := Cond.code_spec B.named hw
        cases Option.some.inj (h1.symm.trans B.method)
        cases Option.some.inj (h2.symm.trans hcode)
        rw [hh0, Array.isEmpty_iff.mp h7]
        rfl
      · obtain ⟨m9, meth9, c9, hn9, h1, h2, -, -, h6, -⟩ := Cond.codeWith_spec hw
        cases Option.some.inj (hn9.symm.trans B.named)
        cases Option.some.inj (h1.symm.trans B.method)
        cases Option.some.inj (h2.symm.trans hcode)
        exact h6
    have hD := hDD.self (sz := s.heap.size)
    subst hsz
    have key := hsim ((p, l, e, mv_rm (g.M z) h h2, s, m, (vs.map (mv_v as sd)).toArray, below, meth, c), (D, cA, sd, va_A (mv_w as sd cA h.1) s.heap.size, as, h.2.1, h.2.2), (mv_En g D cA sd (va_A (mv_w as sd cA h.1) s.heap.size) as o h2, va_A (mv_w as sd cA h.1) s.heap.size, o, h2))
      ⟨⟨B.exec, B.bytes, hml, findClass_of_methodNamed B.named, B.notSynchronized, B.returns, (name_of_methodNamed B.named B.method).1, htab, hl, fun w hw' => hO.1 w hw' _ _ _ _ (State.WarmedH.refl s) (hG w hw')⟩,
        ⟨hK, hPh, fun q hq => Or.inr hq, fun q hq => hq⟩,
        ⟨Nat.le_refl _, Nat.le_refl _, Nat.le_refl _, Nat.le_refl _, fun v as2 t ho hnd _ => Or.inl ⟨v, as2, ho, rfl, hnd⟩, fun k as2 t q ce ho hce hcv hcl hnd _ => Or.inr ⟨k, as2, q, ce, ho, rfl, hce, hcv, hcl, hnd⟩⟩⟩ rfl rfl rfl
      (Nat.le_refl _) (Nat.le_refl _) hm1 hm2 as s.heap [] _ ⟨hlen, List.prefix_refl _, hPP, hD, va_S.rf⟩ (mv_L_entry hlay)
    have hh0 : s₁.heap = s.heap := by rw [B.state]; rfl
    rw [lg_entry_eq]
    dsimp only [mv_Cx.c0, mv_Cx.s0] at key
    rw [Nat.sub_self, Nat.sub_self] at key
    obtain ⟨t, a1, oc, b1, b2, b3⟩ := key s₁ hh0 (Stand.of_body B)
    exact ⟨t, oc, a1, b1, b2, b3⟩
theorem mv_sim {g : mv_Gp} (hO : mv_Ok g) {P : mv_P} (hP : mv_Pok g P) {l : Launch} (hl : l.stackTraces = false) : ∀ (n y : Nat) (f : mv_F) (h : mv_H) (o : mv_O) (h' : mv_H), mv_x P n y f h = some (o, h') → ∀ x : mv_Cx, mv_X g y x → x.l = l → x.o = o → x.hf = h' → mv_G g (g.M y).nL x f h := by
  have hmn : ∀ y pc st, P.1 y pc = some st → mv_Mn st := fun y pc st e => (hP.1 y pc st e).2
  intro n
  induction n with
  | zero => intro y f h o h' hr; simp [mv_x] at hr
  | succ n ih =>
    intro y f h o h' hr x hX hxl hxo hxh
    obtain ⟨pc, L, stk⟩ := f
    rw [mv_x] at hr
    dsimp only at hr
    cases hp : P.1 y pc with
    | none => simp [hp] at hr
    | some s =>
      simp only [hp] at hr
      have hS := (hP.1 y pc s hp).1
      cases hs : s (pc, L, stk) h with
      | none => simp [hs] at hr
      | some q =>
        simp only [hs] at hr
        refine hS x hX L stk h q hs ?_
        match q, hr with
        | .inl (f1, h1), hr =>
          have hmm := mv_mono hmn _ _ _ _ _ hr
          exact ⟨by rw [hxh]; exact hmm.1, by rw [hxh]; exact hmm.2, ih y f1 h1 o h' hr x hX hxl hxo hxh⟩
        | .inr (.inl (o1, h1)), hr =>
          cases hr
          exact ⟨hxo, hxh⟩
        | .inr (.inr (z, vs, f1, h1)), hr =>
          dsimp only at hr
          cases hbn : Nat.ble (mv_lay vs).length (P.2.1 z) with
          | false => rw [hbn] at hr; simp at hr
          | true =>
          rw [hbn, cond_true] at hr
          cases hz : mv_x P n z (0, mv_entry (P.2.1 z) vs, []) h1 with
          | none => simp [hz] at hr
          | some u =>
            obtain ⟨o2, h2⟩ := u
            rw [hz] at hr
            have hmz := mv_mono hmn _ _ _ _ _ hz
            rw [hP.2.1 z] at hz hbn
            have hM : mv_Mt g x.l z vs h1 o2 h2 := by
              rw [hxl]
              exact mv_met hO hl (hP.2.2.2 z) hmz.1 hmz.2 (Nat.le_of_ble_eq_true hbn) (fun x9 hX9 hl9 ho9 hh9 => ih z _ h1 o2 h2 hz x9 hX9 hl9 ho9 hh9)
            cases o2 with
            | inl v =>
              dsimp only at hr
              cases hk : mv_ok h1 h2 f1 with
              | false => simp [hk] at hr
              | true =>
                simp only [hk, cond_true] at hr
                have hmm := mv_mono hmn _ _ _ _ _ hr
                refine ⟨.inl v, h2, hmz.1, hmz.2, by rw [hxh]; exact hmm.1, by rw [hxh]; exact hmm.2, hM, fun v9 e9 => ?_, fun k9 e9 => (by cases e9)⟩
                cases e9
                exact ⟨hk, ih y _ h2 o h' hr x hX hxl hxo hxh⟩
            | inr k =>
              dsimp only at hr
              cases hXk : P.2.2 y pc k with
              | none => simp [hXk] at hr
              | some pi =>
                cases pi with
                | none =>
                simp only [hXk] at hr
                obtain ⟨hr1, hr2⟩ := Prod.mk.inj (Option.some.inj hr)
                have hxh : x.hf = h2 := hxh.trans hr2.symm
                have hxo : x.o = .inr k := hxo.trans hr1.symm
                refine ⟨.inr k, h2, hmz.1, hmz.2, (by rw [hxh]; exact Nat.le_refl _), (by rw [hxh]; exact Nat.le_refl _), hM, fun v9 e9 => (by cases e9), fun k9 e9 => ?_⟩
                cases e9
                exact Or.inl ⟨by rw [← hP.2.2.1]; exact hXk, hxo, hxh⟩
                | some pi =>
                obtain ⟨pc9, i9⟩ := pi
                simp only [hXk] at hr
                cases hk : mv_ok h1 h2 f1 with
                | false => simp [hk] at hr
                | true =>
                  simp only [hk, cond_true] at hr
                  have hmm := mv_mono hmn _ _ _ _ _ hr
                  refine ⟨.inr k, h2, hmz.1, hmz.2, by rw [hxh]; exact hmm.1, by rw [hxh]; exact hmm.2, hM, fun v9 e9 => (by cases e9), fun k9 e9 => ?_⟩
                  cases e9
                  exact Or.inr ⟨pc9, i9, by rw [← hP.2.2.1]; exact hXk, hk, ih y _ h2 o h' hr x hX hxl hxo hxh⟩
