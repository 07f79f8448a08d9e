/-! WHAT STANDS OUTSIDE THE WORLD: constants, statics, texts, tables; arraycopy; throws -/
theorem mn_ldcS {g : mv_Gp} {y pc k idx : Nat} {tx : String} (hd : decode (g.M y).cc pc = .ok (.ldc idx, 2)) (hP : ∀ sd A U H, g.Ph sd A U H → ∃ a, sd k = some a ∧ vk_R (g.M y).nm.cls idx tx a U) : mv_Snd g y pc (mi_pure 2 (mo_push (.retAddr k))) := by
  intro x hX L stk h r e hr c1 c2 c3 c4 as H locs ls hw hl
  cases e
  obtain ⟨a, h1, h2⟩ := hP _ _ _ _ hX.2.1.2.1
  have kk := hr.2.2 c1 c2 hr.1 hr.2.1 as H locs ls hw hl
  simp only [List.map_cons, mv_v, h1] at kk
  exact va_ldcS hX.1.1 hX.1.2.1 hX.1.2.2.2.1 h2 hd kk
theorem mn_ldcW {g : mv_Gp} {y pc k idx : Nat} {tx : String} (hd : decode (g.M y).cc pc = .ok (.ldc_w idx, 3)) (hP : ∀ sd A U H, g.Ph sd A U H → ∃ a, sd k = some a ∧ vk_R (g.M y).nm.cls idx tx a U) : mv_Snd g y pc (mi_pure 3 (mo_push (.retAddr k))) := by
  intro x hX L stk h r e hr c1 c2 c3 c4 as H locs ls hw hl
  cases e
  obtain ⟨a, h1, h2⟩ := hP _ _ _ _ hX.2.1.2.1
  have kk := hr.2.2 c1 c2 hr.1 hr.2.1 as H locs ls hw hl
  simp only [List.map_cons, mv_v, h1] at kk
  intro T hT X
  obtain ⟨t, a1, b1⟩ := kk T hT X
  exact ⟨t, X.ldcStringW hX.1.1 hX.1.2.2.2.1 (text := tx) (a := a) h2.1 h2.2 (g := F0 x.m pc ls (stk.map (mv_v as x.sd))) rfl (by rw [hX.1.2.1]; exact hd) t a1, b1⟩
theorem mn_ldc2 {g : mv_Gp} {y pc idx : Nat} {v : Int64} (hd : decode (g.M y).cc pc = .ok (.ldc2_w idx, 3)) (hw9 : Cond.constantLong (g.M y).nm.cls idx v ∈ g.G) : mv_Snd g y pc (mi_pure 3 (mo_push (.long v))) := by
  intro x hX L stk h r e hr c1 c2 c3 c4 as H locs ls hw hl
  cases e
  exact lv_ldc2 hX.1.1 hX.1.2.1 hX.1.2.2.2.1 (hX.1.2.2.2.2.2.2.2.2.2 _ hw9) hd (hr.2.2 c1 c2 hr.1 hr.2.1 as H locs ls hw hl)
/-- a static's value: v is a number or a thing outside -/
theorem mn_gets {g : mv_Gp} {y pc idx : Nat} {C n d : String} {v : Value} (hd : decode (g.M y).cc pc = .ok (.getstatic idx, 3)) (hlk : Cond.fieldLink (g.M y).nm.cls idx C n d ∈ g.G) (hP : ∀ sd A U H, g.Ph sd A U H → va_Z C n d (mv_v [] sd v) A U H) (hv : ∀ as sd, mv_v as sd v = mv_v [] sd v) : mv_Snd g y pc (mi_pure 3 (mo_push v)) := by
  intro x hX L stk h r e hr c1 c2 c3 c4 as H locs ls hw hl
  cases e
  have kk := hr.2.2 c1 c2 hr.1 hr.2.1 as H locs ls hw hl
  rw [List.map_cons, hv] at kk
  exact va_gets hX.1.1 hX.1.2.1 (hP _ _ _ _ hX.2.1.2.1) hw.2.2.2.2 hX.1.2.2.2.1 (hX.1.2.2.2.2.2.2.2.2.2 _ hlk) (fun _ h9 => h9) hd kk
theorem mn_getsN {g : mv_Gp} {y pc idx : Nat} {C n d host : String} {v : Value} (hd : decode (g.M y).cc pc = .ok (.getstatic idx, 3)) (hlk : Cond.fieldLinkNest (g.M y).nm.cls idx C n d host ∈ g.G) (hP : ∀ sd A U H, g.Ph sd A U H → va_Z C n d (mv_v [] sd v) A U H) (hv : ∀ as sd, mv_v as sd v = mv_v [] sd v) : mv_Snd g y pc (mi_pure 3 (mo_push v)) := by
  intro x hX L stk h r e hr c1 c2 c3 c4 as H locs ls hw hl
  cases e
  have kk := hr.2.2 c1 c2 hr.1 hr.2.1 as H locs ls hw hl
  rw [List.map_cons, hv] at kk
  exact va_getsN hX.1.1 hX.1.2.1 (hP _ _ _ _ hX.2.1.2.1) hw.2.2.2.2 hX.1.2.2.2.1 (hX.1.2.2.2.2.2.2.2.2.2 _ hlk) (fun _ h9 => h9) hd kk
/-- a field of a thing outside -/
def mi_getS (tb : Nat → Option Value) : mv_S := fun f h =>
  match f.2.2 with
  | .retAddr q :: st => match tb q with
    | some v => some (.inl ((f.1 + 3, f.2.1, v :: st), h))
    | none => none
  | _ => none
theorem mn_getS {g : mv_Gp} {y pc idx : Nat} {o n d : String} {tb : Nat → Option Value} (hd : decode (g.M y).cc pc = .ok (.getfield idx, 3)) (hlk : Cond.fieldLink (g.M y).nm.cls idx o n d ∈ g.G) (hP : ∀ sd A U H, g.Ph sd A U H → ∀ q v, tb q = some v → ∃ a, sd q = some a ∧ va_OF o n d (mv_v [] sd v) a A U H)
    (hv : ∀ q v, tb q = some v → ∀ as sd, mv_v as sd v = mv_v [] sd v) : mv_Snd g y pc (mi_getS tb) := by
  intro x hX L stk h r e hr c1 c2 c3 c4 as H locs ls hw hl
  unfold mi_getS at e
  dsimp only at e
  split at e
  · rename_i q st
    split at e
    · rename_i v hq
      cases e
      obtain ⟨a, h1, h2⟩ := hP _ _ _ _ hX.2.1.2.1 q v hq
      have kk := hr.2.2 c1 c2 hr.1 hr.2.1 as H locs ls hw hl
      rw [List.map_cons, hv q v hq] at kk
      simp only [List.map_cons, mv_v, h1]
      exact vk_getf hX.1.1 hX.1.2.1 h2 hw.2.2.2.2 hX.1.2.2.2.1 (hX.1.2.2.2.2.2.2.2.2.2 _ hlk) (fun _ h9 => h9) hd kk
    · cases e
  · cases e
/-- a table's places and length -/
def mi_tld (tb : Nat → Option (Nat × (Nat → Int32))) : mv_S := fun f h =>
  match f.2.2 with
  | .int i :: .retAddr q :: st => match tb q with
    | some (n, a) => if mv_in i n = true then some (.inl ((f.1 + 1, f.2.1, .int (a i.toNatClampNeg) :: st), h)) else none
    | none => none
  | _ => none
def mi_tlen (tb : Nat → Option (Nat × (Nat → Int32))) : mv_S := fun f h =>
  match f.2.2 with
  | .retAddr q :: st => match tb q with
    | some (n, _) => some (.inl ((f.1 + 1, f.2.1, .int (Int32.ofNat n) :: st), h))
    | none => none
  | _ => none
theorem mn_tldi {g : mv_Gp} {y pc : Nat} {tb : Nat → Option (Nat × (Nat → Int32))} (hd : decode (g.M y).cc pc = .ok (.iaload, 1)) (hP : ∀ sd A U H, g.Ph sd A U H → ∀ q n a, tb q = some (n, a) → ∃ t, sd q = some t ∧ va_T .int t n (fun j => .int (a j)) A U H) : mv_Snd g y pc (mi_tld tb) := by
  intro x hX L stk h r e hr c1 c2 c3 c4 as H locs ls hw hl
  unfold mi_tld at e
  dsimp only at e
  split at e
  · rename_i i q st
    split at e
    · rename_i n a hq
      split at e
      · rename_i hin
        cases e
        obtain ⟨t, h1, h2⟩ := hP _ _ _ _ hX.2.1.2.1 q n a hq
        simp only [List.map_cons, mv_v, h1]
        exact va_ti hX.1.1 hX.1.2.1 h2 hw.2.2.2.2 (mv_in_ok hin) rfl hd (hr.2.2 c1 c2 hr.1 hr.2.1 as H locs ls hw hl)
      · cases e
    · cases e
  · cases e
theorem mn_tldb {g : mv_Gp} {y pc : Nat} {tb : Nat → Option (Nat × (Nat → Int32))} (hd : decode (g.M y).cc pc = .ok (.baload, 1)) (hP : ∀ sd A U H, g.Ph sd A U H → ∀ q n a, tb q = some (n, a) → ∃ t, sd q = some t ∧ va_T .byte t n (fun j => .int (a j)) A U H) : mv_Snd g y pc (mi_tld tb) := by
  intro x hX L stk h r e hr c1 c2 c3 c4 as H locs ls hw hl
  unfold mi_tld at e
  dsimp only at e
  split at e
  · rename_i i q st
    split at e
    · rename_i n a hq
      split at e
      · rename_i hin
        cases e
        obtain ⟨t, h1, h2⟩ := hP _ _ _ _ hX.2.1.2.1 q n a hq
        simp only [List.map_cons, mv_v, h1]
        exact va_tb hX.1.1 hX.1.2.1 h2 hw.2.2.2.2 (mv_in_ok hin) rfl hd (hr.2.2 c1 c2 hr.1 hr.2.1 as H locs ls hw hl)
      · cases e
    · cases e
  · cases e
theorem mn_tlen {g : mv_Gp} {y pc : Nat} {ty : FieldType} {tb : Nat → Option (Nat × (Nat → Int32))} (hd : decode (g.M y).cc pc = .ok (.arraylength, 1)) (hP : ∀ sd A U H, g.Ph sd A U H → ∀ q n a, tb q = some (n, a) → ∃ t, sd q = some t ∧ va_T ty t n (fun j => .int (a j)) A U H) : mv_Snd g y pc (mi_tlen tb) := by
  intro x hX L stk h r e hr c1 c2 c3 c4 as H locs ls hw hl
  unfold mi_tlen at e
  dsimp only at e
  split at e
  · rename_i q st
    split at e
    · rename_i n a hq
      cases e
      obtain ⟨t, h1, h2⟩ := hP _ _ _ _ hX.2.1.2.1 q n a hq
      simp only [List.map_cons, mv_v, h1]
      exact va_tlen hX.1.1 hX.1.2.1 h2 hw.2.2.2.2 rfl hd (hr.2.2 c1 c2 hr.1 hr.2.1 as H locs ls hw hl)
    · cases e
  · cases e
theorem mi_getS_mn (tb : Nat → Option Value) : mv_Mn (mi_getS tb) := by
  intro f h r e
  unfold mi_getS at e
  (repeat' split at e) <;> first | (cases e; exact ⟨Nat.le_refl _, Nat.le_refl _⟩) | cases e
theorem mi_tld_mn (tb : Nat → Option (Nat × (Nat → Int32))) : mv_Mn (mi_tld tb) := by
  intro f h r e
  unfold mi_tld at e
  (repeat' split at e) <;> first | (cases e; exact ⟨Nat.le_refl _, Nat.le_refl _⟩) | cases e
theorem mi_tlen_mn (tb : Nat → Option (Nat × (Nat → Int32))) : mv_Mn (mi_tlen tb) := by
  intro f h r e
  unfold mi_tlen at e
  (repeat' split at e) <;> first | (cases e; exact ⟨Nat.le_refl _, Nat.le_refl _⟩) | cases e
/-- an answer of a small type -/
def mi_nret (ty : FieldType) : mv_S := fun f h =>
  match f.2.2 with
  | [.int x] => if vp_nar ty x = x then some (.inr (.inl (.inl (some (.int x)), h))) else none
  | _ => none
theorem mn_nret {g : mv_Gp} {y pc : Nat} {ty : FieldType} (hd : decode (g.M y).cc pc = .ok (.ireturn, 1)) (hret : (g.M y).ret = some ty) (hty : ∀ x, narrow ty (.int x) = .int (vp_nar ty x)) : mv_Snd g y pc (mi_nret ty) := by
  intro x hX L stk h r e hr c1 c2 c3 c4 as H locs ls hw hl
  unfold mi_nret at e
  dsimp only at e
  split at e
  · rename_i v
    split at e
    · rename_i hv
      cases e
      obtain ⟨ho, hh⟩ := hr
      subst hh
      exact mz_ret (W.zret (v := v) (ty := ty) hX.1.1 hX.1.2.1 (by rw [hX.1.2.2.2.2.2.1]; exact hret) (by rw [hty, hv]) (fun t ht hW => hX.2.2.2.2.2.2.1 (some (.int v)) as t ho (mv_nd hw ht) hW.alike) (fun q hq => hX.2.1.2.2.2 _ (hw.2.2.2.2.2.2 q hq)) hd hX.1.2.2.2.2.1)
    · cases e
  · cases e
theorem mi_nret_mn (ty : FieldType) : mv_Mn (mi_nret ty) := by
  intro f h r e
  unfold mi_nret at e
  (repeat' split at e) <;> first | (cases e; exact ⟨Nat.le_refl _, Nat.le_refl _⟩) | cases e
/-- System.arraycopy of ints -/
def mi_copy : mv_S := fun f h =>
  match f.2.2 with
  | .int n :: .int dp :: .ref q1 :: .int sp :: .ref q0 :: st => match h.1[q0]?, h.1[q1]? with
    | some (.inl (0, n0, .inl a)), some (.inl (0, n1, .inl b)) => if (¬ sp < 0 ∧ ¬ dp < 0 ∧ ¬ n < 0) ∧ sp.toNatClampNeg + n.toNatClampNeg ≤ n0 ∧ dp.toNatClampNeg + n.toNatClampNeg ≤ n1 ∧ mv_cat st ≤ 8 then
        some (.inl ((f.1 + 3, f.2.1, st), (h.1.set q1 (.inl (0, n1, .inl (va_cpy a b sp.toNatClampNeg dp.toNatClampNeg n.toNatClampNeg))), h.2.1, h.2.2))) else none
    | _, _ => none
  | _ => none
theorem mn_copy {g : mv_Gp} {y pc idx : Nat} (hd : decode (g.M y).cc pc = .ok (.invokestatic idx, 3)) (ht : g.tk[0]? = some .int) (hlk : Cond.methodLink (g.M y).nm.cls idx arraycopyName ∈ g.G) (hnat : Cond.native arraycopyName ∈ g.G) (hsm : Cond.static arraycopyName ∈ g.G) (hini : Cond.initialized "java/lang/System" ∈ g.G)
    (hfr : 1 ≤ (g.M y).fr) (hlo : 8 + (nativeFrameWords "java/lang/System" "arraycopy" 5 + 11) ≤ (g.M y).lo) : mv_Snd g y pc mi_copy := by
  intro x hX L stk h r e hr c1 c2 c3 c4 as H locs ls hw hl
  unfold mi_copy at e
  dsimp only at e
  split at e
  · rename_i n dp q1 sp q0 st
    split at e
    · rename_i n0 a n1 b hq0 hq1
      split at e
      · rename_i hc
        cases e
        have hts := hX.1.2.2.2.2.2.2.2.2.2
        have q3 := hX.2.2.2.2.1
        have q4 := hX.2.2.2.2.2.1
        exact va_copyi (D := x.D) (cl := g.cl) (tys := mv_tys x.cA g.tk) (ws := mv_w as x.sd x.cA h.1) hX.1.1 hX.1.2.1 (by rw [hX.1.2.2.1]; exact hl.2.1.symm) hX.1.2.2.2.1 (hts _ hlk) (hts _ hnat) (hts _ hsm) (hts _ hini) hX.2.1.1 hw.2.2.1 hw.2.2.2.1 hw.2.2.2.2 q0 q1 0 0 (mv_w_at hw.1 hq0) (mv_w_at hw.1 hq1) (mv_tys_at ht) (mv_tys_at ht) rfl
          hc.1.1 hc.1.2.1 hc.1.2.2 hc.2.1 hc.2.2.1 (fun i hi => rfl) (by omega) (by rw [mv_cat_map]; have := hc.2.2.2; omega) hd (fun H1 locs1 hP hD hS => hr.2.2 c1 c2 hr.1 hr.2.1 as H1 locs1 ls ⟨by show as.length = (h.1.set q1 _).length; rw [List.length_set]; exact hw.1, hw.2.1, by show va_P _ _ (mv_w as x.sd x.cA (h.1.set q1 _)) _; rw [mv_w_set hw.1]; exact hP, by show va_D _ (mv_w as x.sd x.cA (h.1.set q1 _)); rw [mv_w_set hw.1]; exact hD, hS⟩ hl)
      · cases e
    · cases e
  · cases e
theorem mi_copy_mn : mv_Mn mi_copy := by
  intro f h r e
  unfold mi_copy at e
  (repeat' split at e) <;> first | (cases e; exact ⟨Nat.le_refl _, Nat.le_refl _⟩) | cases e
set_option maxHeartbeats 1000000 in
theorem mn_callK {g : mv_Gp} (hO : mv_Ok g) {y pc z n idx : Nat} {C : String} {b : Nat → Bool} (hd : decode (g.M y).cc pc = .ok (.invokevirtual idx, 3)) (hP : ∀ sd A U H, g.Ph sd A U H → ∀ q, b q = true → ∃ a, sd q = some a ∧ va_O C a A U H) (hH : mv_Hn g y pc) (hz : mv_Cl g y z) (hlk : Cond.methodLink (g.M y).nm.cls idx (g.M z).nm ∈ g.G) (him : Cond.instanceMethod (g.M z).nm ∈ g.G) (hse : Cond.selects C (g.M z).nm (g.M z).nm ∈ g.G)
    (hn : (parseMethodDescriptor (g.M z).nm.desc).map (fun d => d.parameters.length) = some n) : mv_Snd g y pc (mi_callK b z (n + 1)) := by
  intro x hX L stk h r e hr c1 c2 c3 c4 as H locs ls hw hl
  unfold mi_callK at e
  dsimp only at e
  split at e
  · rename_i q vs hvs
    cases hcj : (b q && Nat.ble (n + 1) stk.length && Nat.ble (mv_cat (stk.drop (n + 1))) 8) with
    | false => rw [hcj] at e; cases e
    | true =>
      rw [hcj, cond_true] at e
      cases e
      simp only [Bool.and_eq_true] at hcj
      obtain ⟨⟨hj, hlen⟩, hcat⟩ := hcj
      have hts := hX.1.2.2.2.2.2.2.2.2.2
      have hst := mv_split hvs
      have hvl : vs.length = n := by
        have h9 := congrArg List.length hvs
        rw [List.length_reverse, List.length_take, List.length_cons] at h9
        have := Nat.le_of_ble_eq_true hlen
        omega
      obtain ⟨a0, ha0, hO0⟩ := hP _ _ _ _ hX.2.1.2.1 q hj
      obtain ⟨cellB, hcell, hobj, hcls, -⟩ := hO0.kept hw.2.2.2.2.2.1
      refine mv_after hO hX hH c1 c2 hw hl (Nat.le_of_ble_eq_true hcat) hz.1 hz.2.1 hz.2.2.1 hz.2.2.2.1 hd ?_ hr
      intro T hT X
      obtain ⟨mk, methM, hnamed, hmethM, hstM, habM⟩ := Cond.instanceMethod_spec (hts _ him)
      obtain ⟨mk9, meth9, hnamed9, hmeth9, hsigM⟩ := mv_sig (hts _ hz.1)
      cases hnamed.symm.trans hnamed9
      cases hmethM.symm.trans hmeth9
      obtain ⟨c2', r2, m2, q1, q2, q3, q4, kP, hkP, hkPi⟩ := Cond.selects_spec (hts _ hse)
      cases hcls.symm.trans q1
      cases (State.methodFound?_of_named hnamed hz.2.2.2.2).symm.trans q2
      cases hnamed.symm.trans q3
      have hselP : selectMethod x.e.platform x.s.vm cellB.cls mk = .method mk := by rw [Launch.admits_selectMethod X.admits]; exact q4
      have hq0 : mv_v as x.sd (.retAddr q) = .ref a0 := by simp only [mv_v, ha0]; rfl
      obtain ⟨vm₁, X₁, hstep₁⟩ := X.invokevirtual hX.1.1 hX.1.2.2.2.1 (hts _ hlk) hnamed hmethM hstM hkP hkPi hz.2.2.2.2 (a := a0) (cell := cellB) (by rw [hT]; exact hcell)
        (fun z9 h9 => by rw [h9] at hobj; cases hobj) hselP hmethM habM hkP hkPi (g := F0 x.m pc ls (stk.map (mv_v as x.sd))) rfl (argsL := vs.map (mv_v as x.sd)) (rest := (stk.drop (n + 1)).map (mv_v as x.sd)) (by rw [List.length_map, hvl]; exact mv_len hn hsigM)
        (by show stk.map (mv_v as x.sd) = _; conv => lhs; rw [hst]
            rw [List.map_append, mv_map_rev, List.map_cons, List.reverse_cons, List.append_assoc, hq0]; rfl) (by rw [hX.1.2.1]; exact hd)
      rw [List.map_cons, hq0]
      exact ⟨vm₁, mk, X₁.warmed, X₁, X₁.named hnamed, fun target h9 => hstep₁ _ fun acts => by rw [doInvoke_state]; exact h9⟩
  · cases e
