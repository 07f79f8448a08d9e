theorem mv_in_ok {i : Int32} {n : Nat} (h : mv_in i n = true) : vp_in i n := by
  simp only [mv_in, Bool.and_eq_true, Bool.not_eq_true', decide_eq_false_iff_not, decide_eq_true_eq] at h
  intro q
  rcases q with q | q
  · exact h.1 q
  · omega
theorem mv_fit_ok {ty : FieldType} {v : Value} {as : List Nat} {sd : Nat → Option Nat} (h : mv_fit ty v = true) : narrow ty (mv_v as sd v) = mv_v as sd v ∧ fits ty (mv_v as sd v) = true := by
  unfold mv_fit at h
  split at h
  · exact ⟨rfl, rfl⟩
  · exact ⟨rfl, rfl⟩
  · rename_i x
    simp only [Bool.or_eq_true, decide_eq_true_eq] at h
    rcases h with rfl | rfl
    · exact ⟨show narrow .boolean (.int 0) = .int 0 by decide, show fits .boolean (.int 0) = true by decide⟩
    · exact ⟨show narrow .boolean (.int 1) = .int 1 by decide, show fits .boolean (.int 1) = true by decide⟩
  · exact ⟨rfl, rfl⟩
  · rename_i c9 k
    show narrow (.object c9) (va_rf (sd k)) = va_rf (sd k) ∧ fits (.object c9) (va_rf (sd k)) = true
    cases sd k <;> exact ⟨rfl, rfl⟩
  · exact ⟨rfl, rfl⟩
  · cases h
theorem mn_get {g : mv_Gp} {y pc ci k idx N : Nat} {C : String} {T : u_T} (hd : decode (g.M y).cc pc = .ok (.getfield idx, 3)) (hc : g.cl[ci]? = some (C, T, N)) (hk : k < N) (hin : ∀ w ∈ u_ws C T N, w ∈ g.G) (hlk : Cond.fieldLink (g.M y).nm.cls idx (T k).1 (T k).2.1 (T k).2.2.1 ∈ g.G) : mv_Snd g y pc (mi_get ci k) := by
  intro x hX L stk h r e hr c1 c2 c3 c4 as H locs ls hw hl
  unfold mi_get at e
  dsimp only at e
  split at e
  · rename_i q st
    split at e
    · rename_i cj fs hq
      cases hcj : Nat.beq cj ci with
      | false => rw [hcj] at e; cases e
      | true =>
        rw [hcj, cond_true] at e
        have hj := Nat.eq_of_beq_eq_true hcj
        subst hj
        split at e
        · rename_i v hv
          cases e
          have hts := hX.1.2.2.2.2.2.2.2.2.2
          exact va_get (D := x.D) (cl := g.cl) (ci := cj) (C := C) (T := T) (N := N) (tys := mv_tys x.cA g.tk) (ws := mv_w as x.sd x.cA h.1) (v := mv_v as x.sd v) (fs := fs.map (mv_v as x.sd)) hX.1.1 hX.1.2.1 hts hin hX.1.2.2.2.1 hX.2.1.1 hw.2.2.1 q (mv_w_at hw.1 hq) hc k hk (hts _ hlk) (fun _ h9 => h9) (by rw [List.getElem?_map, hv]; rfl) hd (hr.2.2 c1 c2 hr.1 hr.2.1 as H locs ls hw hl)
        · cases e
    · cases e
  · cases e
theorem mn_getN {g : mv_Gp} {y pc ci k idx N : Nat} {C host : String} {T : u_T} (hd : decode (g.M y).cc pc = .ok (.getfield idx, 3)) (hc : g.cl[ci]? = some (C, T, N)) (hk : k < N) (hin : ∀ w ∈ u_ws C T N, w ∈ g.G) (hlk : Cond.fieldLinkNest (g.M y).nm.cls idx (T k).1 (T k).2.1 (T k).2.2.1 host ∈ g.G) : mv_Snd g y pc (mi_get ci k) := by
  intro x hX L stk h r e hr c1 c2 c3 c4 as H locs ls hw hl
  unfold mi_get at e
  dsimp only at e
  split at e
  · rename_i q st
    split at e
    · rename_i cj fs hq
      cases hcj : Nat.beq cj ci with
      | false => rw [hcj] at e; cases e
      | true =>
        rw [hcj, cond_true] at e
        have hj := Nat.eq_of_beq_eq_true hcj
        subst hj
        split at e
        · rename_i v hv
          cases e
          have hts := hX.1.2.2.2.2.2.2.2.2.2
          exact va_getN (D := x.D) (cl := g.cl) (ci := cj) (C := C) (T := T) (N := N) (tys := mv_tys x.cA g.tk) (ws := mv_w as x.sd x.cA h.1) (v := mv_v as x.sd v) (fs := fs.map (mv_v as x.sd)) hX.1.1 hX.1.2.1 hts hin hX.1.2.2.2.1 hX.2.1.1 hw.2.2.1 q (mv_w_at hw.1 hq) hc k hk (hts _ hlk) (fun _ h9 => h9) (by rw [List.getElem?_map, hv]; rfl) hd (hr.2.2 c1 c2 hr.1 hr.2.1 as H locs ls hw hl)
        · cases e
    · cases e
  · cases e
theorem mn_put {g : mv_Gp} {y pc ci k idx N : Nat} {C host : String} {T : u_T} {ty : FieldType} (ty0 : Nat → FieldType) (hd : decode (g.M y).cc pc = .ok (.putfield idx, 3)) (hc : g.cl[ci]? = some (C, T, N)) (hk : k < N) (hin : ∀ w ∈ u_ws C T N, w ∈ g.G) (hty : ∀ k, k < N → parseFieldDescriptor (T k).2.2.1 = some (ty0 k)) (hnm : ∀ a, a < N → ∀ b, b < N → a ≠ b → (T a).2.1 ≠ (T b).2.1) (hlk : Cond.fieldLink (g.M y).nm.cls idx (T k).1 (T k).2.1 (T k).2.2.1 ∈ g.G) (hfin : (T k).2.2.2 = false) (hp : parseFieldDescriptor (T k).2.2.1 = some ty) : mv_Snd g y pc (mi_put ci k ty) := by
  intro x hX L stk h r e hr c1 c2 c3 c4 as H locs ls hw hl
  unfold mi_put at e
  dsimp only at e
  split at e
  · rename_i v q st
    split at e
    · rename_i cj fs hq
      cases hcj : (Nat.beq cj ci && mv_fit ty v && Nat.blt k fs.length) with
      | false => rw [hcj] at e; cases e
      | true =>
        rw [hcj, cond_true] at e
        simp only [Bool.and_eq_true] at hcj
        obtain ⟨⟨hj, hft⟩, hlt⟩ := hcj
        have hj := Nat.eq_of_beq_eq_true hj
        subst hj
        cases e
        have hts := hX.1.2.2.2.2.2.2.2.2.2
        obtain ⟨f1, f2⟩ := mv_fit_ok (as := as) (sd := x.sd) hft
        have hlt : k < fs.length := Nat.le_of_ble_eq_true hlt
        exact va_put (D := x.D) (cl := g.cl) (ci := cj) (C := C) (T := T) (N := N) (tys := mv_tys x.cA g.tk) (ws := mv_w as x.sd x.cA h.1) (v := mv_v as x.sd v) (fs := fs.map (mv_v as x.sd)) hX.1.1 hX.1.2.1 hts hin ty0 hty hnm hX.1.2.2.2.1 hX.2.1.1 hw.2.2.1 hw.2.2.2.1 hw.2.2.2.2 q (mv_w_at hw.1 hq) hc k hk (hts _ hlk) (fun _ h9 => h9) hfin hp f1 f2 (by rw [List.length_map]; exact hlt) hd (fun H1 locs1 hP hD hS => hr.2.2 c1 c2 hr.1 hr.2.1 as H1 locs1 ls ⟨by show as.length = (h.1.set q _).length; rw [List.length_set]; exact hw.1, hw.2.1, by rw [← List.map_set] at hP; show va_P _ _ (mv_w as x.sd x.cA (h.1.set q _)) _; rw [mv_w_set hw.1]; exact hP, by rw [← List.map_set] at hD; show va_D _ (mv_w as x.sd x.cA (h.1.set q _)); rw [mv_w_set hw.1]; exact hD, hS⟩ hl)
    · cases e
  · cases e
theorem mn_putN {g : mv_Gp} {y pc ci k idx N : Nat} {C host : String} {T : u_T} {ty : FieldType} (ty0 : Nat → FieldType) (hd : decode (g.M y).cc pc = .ok (.putfield idx, 3)) (hc : g.cl[ci]? = some (C, T, N)) (hk : k < N) (hin : ∀ w ∈ u_ws C T N, w ∈ g.G) (hty : ∀ k, k < N → parseFieldDescriptor (T k).2.2.1 = some (ty0 k)) (hnm : ∀ a, a < N → ∀ b, b < N → a ≠ b → (T a).2.1 ≠ (T b).2.1) (hlk : Cond.fieldLinkNest (g.M y).nm.cls idx (T k).1 (T k).2.1 (T k).2.2.1 host ∈ g.G) (hfin : (T k).2.2.2 = false) (hp : parseFieldDescriptor (T k).2.2.1 = some ty) : mv_Snd g y pc (mi_put ci k ty) := by
  intro x hX L stk h r e hr c1 c2 c3 c4 as H locs ls hw hl
  unfold mi_put at e
  dsimp only at e
  split at e
  · rename_i v q st
    split at e
    · rename_i cj fs hq
      cases hcj : (Nat.beq cj ci && mv_fit ty v && Nat.blt k fs.length) with
      | false => rw [hcj] at e; cases e
      | true =>
        rw [hcj, cond_true] at e
        simp only [Bool.and_eq_true] at hcj
        obtain ⟨⟨hj, hft⟩, hlt⟩ := hcj
        have hj := Nat.eq_of_beq_eq_true hj
        subst hj
        cases e
        have hts := hX.1.2.2.2.2.2.2.2.2.2
        obtain ⟨f1, f2⟩ := mv_fit_ok (as := as) (sd := x.sd) hft
        have hlt : k < fs.length := Nat.le_of_ble_eq_true hlt
        exact va_putN (D := x.D) (cl := g.cl) (ci := cj) (C := C) (T := T) (N := N) (tys := mv_tys x.cA g.tk) (ws := mv_w as x.sd x.cA h.1) (v := mv_v as x.sd v) (fs := fs.map (mv_v as x.sd)) hX.1.1 hX.1.2.1 hts hin ty0 hty hnm hX.1.2.2.2.1 hX.2.1.1 hw.2.2.1 hw.2.2.2.1 hw.2.2.2.2 q (mv_w_at hw.1 hq) hc k hk (hts _ hlk) (fun _ h9 => h9) hfin hp f1 f2 (by rw [List.length_map]; exact hlt) hd (fun H1 locs1 hP hD hS => hr.2.2 c1 c2 hr.1 hr.2.1 as H1 locs1 ls ⟨by show as.length = (h.1.set q _).length; rw [List.length_set]; exact hw.1, hw.2.1, by rw [← List.map_set] at hP; show va_P _ _ (mv_w as x.sd x.cA (h.1.set q _)) _; rw [mv_w_set hw.1]; exact hP, by rw [← List.map_set] at hD; show va_D _ (mv_w as x.sd x.cA (h.1.set q _)); rw [mv_w_set hw.1]; exact hD, hS⟩ hl)
    · cases e
  · cases e
theorem mn_putF {g : mv_Gp} {y pc ci k idx N : Nat} {C host : String} {T : u_T} {ty : FieldType} (ty0 : Nat → FieldType) (hd : decode (g.M y).cc pc = .ok (.putfield idx, 3)) (hc : g.cl[ci]? = some (C, T, N)) (hk : k < N) (hin : ∀ w ∈ u_ws C T N, w ∈ g.G) (hty : ∀ k, k < N → parseFieldDescriptor (T k).2.2.1 = some (ty0 k)) (hnm : ∀ a, a < N → ∀ b, b < N → a ≠ b → (T a).2.1 ≠ (T b).2.1) (hlk : Cond.fieldLink (g.M y).nm.cls idx (T k).1 (T k).2.1 (T k).2.2.1 ∈ g.G) (hfin : (T k).2.2.2 = true) (hini : (g.M y).nm.name = "<init>") (hdecl : (T k).1 = (g.M y).nm.cls) (hp : parseFieldDescriptor (T k).2.2.1 = some ty) : mv_Snd g y pc (mi_put ci k ty) := by
  intro x hX L stk h r e hr c1 c2 c3 c4 as H locs ls hw hl
  unfold mi_put at e
  dsimp only at e
  split at e
  · rename_i v q st
    split at e
    · rename_i cj fs hq
      cases hcj : (Nat.beq cj ci && mv_fit ty v && Nat.blt k fs.length) with
      | false => rw [hcj] at e; cases e
      | true =>
        rw [hcj, cond_true] at e
        simp only [Bool.and_eq_true] at hcj
        obtain ⟨⟨hj, hft⟩, hlt⟩ := hcj
        have hj := Nat.eq_of_beq_eq_true hj
        subst hj
        cases e
        have hts := hX.1.2.2.2.2.2.2.2.2.2
        obtain ⟨f1, f2⟩ := mv_fit_ok (as := as) (sd := x.sd) hft
        have hlt : k < fs.length := Nat.le_of_ble_eq_true hlt
        exact va_putF (D := x.D) (cl := g.cl) (ci := cj) (C := C) (T := T) (N := N) (tys := mv_tys x.cA g.tk) (ws := mv_w as x.sd x.cA h.1) (v := mv_v as x.sd v) (fs := fs.map (mv_v as x.sd)) hX.1.1 hX.1.2.1 hts hin ty0 hty hnm hX.1.2.2.2.1 hX.2.1.1 hw.2.2.1 hw.2.2.2.1 hw.2.2.2.2 q (mv_w_at hw.1 hq) hc k hk (hts _ hlk) (fun _ h9 => h9) hfin (by rw [hX.1.2.2.2.2.2.2.1]; exact hini) hdecl hp f1 f2 (by rw [List.length_map]; exact hlt) hd (fun H1 locs1 hP hD hS => hr.2.2 c1 c2 hr.1 hr.2.1 as H1 locs1 ls ⟨by show as.length = (h.1.set q _).length; rw [List.length_set]; exact hw.1, hw.2.1, by rw [← List.map_set] at hP; show va_P _ _ (mv_w as x.sd x.cA (h.1.set q _)) _; rw [mv_w_set hw.1]; exact hP, by rw [← List.map_set] at hD; show va_D _ (mv_w as x.sd x.cA (h.1.set q _)); rw [mv_w_set hw.1]; exact hD, hS⟩ hl)
    · cases e
  · cases e
theorem mn_iald {g : mv_Gp} {y pc : Nat} (hd : decode (g.M y).cc pc = .ok (.iaload, 1)) (ht : g.tk[0]? = some .int) : mv_Snd g y pc mi_iald := by
  intro x hX L stk h r e hr c1 c2 c3 c4 as H locs ls hw hl
  unfold mi_iald at e
  dsimp only at e
  split at e
  · rename_i i q st
    split at e
    · rename_i n a hq
      split at e
      · rename_i hin
        cases e
        exact va_iald (D := x.D) (cl := g.cl) (tys := mv_tys x.cA g.tk) (ws := mv_w as x.sd x.cA h.1) hX.1.1 hX.1.2.1 hX.2.1.1 hw.2.2.1 q 0 (mv_w_at hw.1 hq) (mv_tys_at ht) (mv_in_ok hin) hd (hr.2.2 c1 c2 hr.1 hr.2.1 as H locs ls hw hl)
      · cases e
    · cases e
  · cases e
theorem mn_lald {g : mv_Gp} {y pc : Nat} (hd : decode (g.M y).cc pc = .ok (.laload, 1)) (ht : g.tk[1]? = some .long) : mv_Snd g y pc mi_lald := by
  intro x hX L stk h r e hr c1 c2 c3 c4 as H locs ls hw hl
  unfold mi_lald at e
  dsimp only at e
  split at e
  · rename_i i q st
    split at e
    · rename_i n a hq
      split at e
      · rename_i hin
        cases e
        exact va_lald (D := x.D) (cl := g.cl) (tys := mv_tys x.cA g.tk) (ws := mv_w as x.sd x.cA h.1) hX.1.1 hX.1.2.1 hX.2.1.1 hw.2.2.1 q 1 (mv_w_at hw.1 hq) (mv_tys_at ht) (mv_in_ok hin) hd (hr.2.2 c1 c2 hr.1 hr.2.1 as H locs ls hw hl)
      · cases e
    · cases e
  · cases e
theorem mn_iast {g : mv_Gp} {y pc : Nat} (hd : decode (g.M y).cc pc = .ok (.iastore, 1)) (ht : g.tk[0]? = some .int) : mv_Snd g y pc mi_iast := by
  intro x hX L stk h r e hr c1 c2 c3 c4 as H locs ls hw hl
  unfold mi_iast at e
  dsimp only at e
  split at e
  · rename_i v i q st
    split at e
    · rename_i n a hq
      split at e
      · rename_i hin
        cases e
        exact va_iast (D := x.D) (cl := g.cl) (tys := mv_tys x.cA g.tk) (ws := mv_w as x.sd x.cA h.1) hX.1.1 hX.1.2.1 hX.2.1.1 hw.2.2.1 hw.2.2.2.1 hw.2.2.2.2 q 0 (mv_w_at hw.1 hq) (mv_tys_at ht) (mv_in_ok hin) hd (fun H1 locs1 hP hD hS => hr.2.2 c1 c2 hr.1 hr.2.1 as H1 locs1 ls ⟨by show as.length = (h.1.set q _).length; rw [List.length_set]; exact hw.1, hw.2.1, by show va_P _ _ (mv_w as x.sd x.cA (h.1.set q _)) _; rw [mv_w_set hw.1]; exact hP, by show va_D _ (mv_w as x.sd x.cA (h.1.set q _)); rw [mv_w_set hw.1]; exact hD, hS⟩ hl)
      · cases e
    · cases e
  · cases e
theorem mn_last {g : mv_Gp} {y pc : Nat} (hd : decode (g.M y).cc pc = .ok (.lastore, 1)) (ht : g.tk[1]? = some .long) : mv_Snd g y pc mi_last := by
  intro x hX L stk h r e hr c1 c2 c3 c4 as H locs ls hw hl
  unfold mi_last at e
  dsimp only at e
  split at e
  · rename_i v i q st
    split at e
    · rename_i n a hq
      split at e
      · rename_i hin
        cases e
        exact va_last (D := x.D) (cl := g.cl) (tys := mv_tys x.cA g.tk) (ws := mv_w as x.sd x.cA h.1) hX.1.1 hX.1.2.1 hX.2.1.1 hw.2.2.1 hw.2.2.2.1 hw.2.2.2.2 q 1 (mv_w_at hw.1 hq) (mv_tys_at ht) (mv_in_ok hin) hd (fun H1 locs1 hP hD hS => hr.2.2 c1 c2 hr.1 hr.2.1 as H1 locs1 ls ⟨by show as.length = (h.1.set q _).length; rw [List.length_set]; exact hw.1, hw.2.1, by show va_P _ _ (mv_w as x.sd x.cA (h.1.set q _)) _; rw [mv_w_set hw.1]; exact hP, by show va_D _ (mv_w as x.sd x.cA (h.1.set q _)); rw [mv_w_set hw.1]; exact hD, hS⟩ hl)
      · cases e
    · cases e
  · cases e
theorem mn_alen {g : mv_Gp} {y pc t : Nat} {ty : FieldType} (hd : decode (g.M y).cc pc = .ok (.arraylength, 1)) (ht : g.tk[t]? = some ty) : mv_Snd g y pc (mi_alen t) := by
  intro x hX L stk h r e hr c1 c2 c3 c4 as H locs ls hw hl
  unfold mi_alen at e
  dsimp only at e
  split at e
  · rename_i q st
    split at e
    · rename_i t9 n a hq
      cases hcj : Nat.beq t9 t with
      | false => rw [hcj] at e; cases e
      | true =>
        rw [hcj, cond_true] at e
        have hj := Nat.eq_of_beq_eq_true hcj
        subst hj
        cases e
        exact va_alen (D := x.D) (cl := g.cl) (tys := mv_tys x.cA g.tk) (ws := mv_w as x.sd x.cA h.1) hX.1.1 hX.1.2.1 hX.2.1.1 hw.2.2.1 q t9 (mv_w_at hw.1 hq) (mv_tys_at ht) rfl hd (hr.2.2 c1 c2 hr.1 hr.2.1 as H locs ls hw hl)
    · cases e
  · cases e
theorem mv_push_len {as : List Nat} {q n : Nat} (h : as.length = n) : (as ++ [q]).getD n 0 = q := by
  subst h
  simp [List.getD_eq_getElem?_getD]
theorem mn_new {g : mv_Gp} {y pc ci idx N : Nat} {C : String} {T : u_T} {fs : List Value} (ty0 : Nat → FieldType) (hd : decode (g.M y).cc pc = .ok (.new idx, 3)) (hc : g.cl[ci]? = some (C, T, N)) (hin : ∀ w ∈ u_ws C T N, w ∈ g.G) (hty : ∀ k, k < N → parseFieldDescriptor (T k).2.2.1 = some (ty0 k))
    (hk1 : Cond.classLink (g.M y).nm.cls idx C ∈ g.G) (hk2 : Cond.instantiable C N ∈ g.G) (hk3 : Cond.initialized C ∈ g.G) (hN : fs.length = N) (hfs : ∀ (as : List Nat) (sd : Nat → Option Nat) (j : Nat), j < N → defaultValue (ty0 j) = vp_V (fs.map (mv_v as sd)) j) (hws : mv_ws 0 fs = true) : mv_Snd g y pc (mi_new ci fs) := by
  intro x hX L stk h r e hr c1 c2 c3 c4 as H locs ls hw hl
  unfold mi_new at e
  dsimp only at e
  cases hb : mv_all (pc, L, stk) h with
  | false => rw [hb] at e; cases e
  | true =>
    rw [hb, cond_true] at e
    cases e
    simp only [mv_all, Bool.and_eq_true] at hb
    obtain ⟨⟨b1, b2⟩, b3⟩ := hb
    obtain ⟨r1, r2, r3⟩ := hr
    dsimp only at r1 r2
    have hts := hX.1.2.2.2.2.2.2.2.2.2
    have q1 := hX.2.2.1
    have q2 := hX.2.2.2.1
    have hwx : mv_wc h.1.length (.inr (ci, fs)) = true := by
      show mv_ws h.1.length fs = true
      clear r3 hfs hN r1 r2
      induction fs with
      | nil => rfl
      | cons v r ih =>
        simp only [mv_ws, Bool.and_eq_true] at hws ⊢
        refine ⟨?_, ih hws.2⟩
        cases v with
        | ref z => simp [mv_wv, Nat.blt] at hws
        | _ => rfl
    refine va_new (D := x.D) (cl := g.cl) (ci := ci) (C := C) (T := T) (N := N) (tys := mv_tys x.cA g.tk) (ws := mv_w as x.sd x.cA h.1) (fs := fs.map (mv_v as x.sd)) hX.1.1 hX.1.2.1 hts hin ty0 hty hX.1.2.2.2.1 (hts _ hk1) (hts _ hk2) (hts _ hk3) hX.2.1.1 hw.2.2.1 hw.2.2.2.1 hw.2.2.2.2 hX.2.1.2.2.1 hc (hfs as x.sd) (by omega) (by omega) hd (fun q H1 hP hD hS => ?_)
    have k := r3 (by show x.c0 ≤ h.2.1 + 1; omega) (by show x.s0 ≤ h.2.2 + fs.length; omega) r1 r2 (as ++ [q]) H1 locs ls ⟨by show _ = (h.1 ++ [_]).length; simp [hw.1], hw.2.1.trans (List.prefix_append _ _), by show va_P _ _ (mv_w _ _ _ (h.1 ++ [_])) _; rw [mv_w_push hw.1 q _ b3 hwx]; exact hP, by show va_D _ (mv_w _ _ _ (h.1 ++ [_])); rw [mv_w_push hw.1 q _ b3 hwx]; exact hD, hS⟩ (hl.app (by rw [hw.1]; exact b1))
    have e1 : h.2.1 + 1 - x.c0 = h.2.1 - x.c0 + 1 := by omega
    have e2 : h.2.2 + fs.length - x.s0 = h.2.2 - x.s0 + N := by omega
    have e3 : ((Value.ref h.1.length :: stk).map (mv_v (as ++ [q]) x.sd)) = .ref q :: stk.map (mv_v as x.sd) := by
      rw [List.map_cons, mv_s_app (by rw [hw.1]; exact b2)]
      show Value.ref ((as ++ [q]).getD h.1.length 0) :: _ = _
      rw [mv_push_len hw.1]
    dsimp only at k
    rw [e1, e2, e3] at k
    exact k
theorem mn_newa {g : mv_Gp} {y pc t : Nat} {atype : ArrayType} {ty : FieldType} {z : (Nat → Int32) ⊕ (Nat → Int64) ⊕ (Nat → UInt32) ⊕ (Nat → UInt64) ⊕ (Nat → Option Nat)} (hd : decode (g.M y).cc pc = .ok (.newarray atype, 2)) (hty : newarray.typeOf atype = ty) (hprim : ty = .int ∨ ty = .long) (ht : g.tk[t]? = some ty) (hk1 : Cond.arrayClass ty ∈ g.G)
    (hz : ∀ (cA : ClassId) (n : Nat), vp_cell cA (n, z) = arrV cA n (fun _ => defaultValue ty)) : mv_Snd g y pc (mi_newa t z) := by
  intro x hX L stk h r e hr c1 c2 c3 c4 as H locs ls hw hl
  unfold mi_newa at e
  dsimp only at e
  split at e
  · rename_i n st
    cases hb : (mv_all (pc, L, .int n :: st) h && !(decide (n < 0)) && decide (n.toNatClampNeg ≤ 1000000)) with
    | false => rw [hb] at e; cases e
    | true =>
      rw [hb, cond_true] at e
      cases e
      simp only [mv_all, mv_ws, Bool.and_eq_true, Bool.not_eq_true', decide_eq_false_iff_not, decide_eq_true_eq] at hb
      obtain ⟨⟨⟨⟨b1, -, b2⟩, b3⟩, b4⟩, b5⟩ := hb
      obtain ⟨r1, r2, r3⟩ := hr
      dsimp only at r1 r2
      have hts := hX.1.2.2.2.2.2.2.2.2.2
      have q1 := hX.2.2.1
      have q2 := hX.2.2.2.1
      subst hty
      refine va_newa (D := x.D) (cl := g.cl) (tys := mv_tys x.cA g.tk) (ws := mv_w as x.sd x.cA h.1) (a0 := (n.toNatClampNeg, z)) hX.1.1 hX.1.2.1 (hts _ hk1) rfl hX.2.1.1 hw.2.2.1 hw.2.2.2.1 hw.2.2.2.2 hX.2.1.2.2.1 (fun cA => hz cA _) b4 rfl (by rcases hprim with hp | hp <;> rw [hp] <;> simp [componentBytes] <;> omega) (by omega) (by omega) hd (fun q cA' H1 hK' hP hD hS => ?_)
      have ec : cA' = x.cA t := by
        have k1 := (hK'.2 (mv_tys x.cA g.tk).length (cA', newarray.typeOf atype) (by rw [List.getElem?_append_right (Nat.le_refl _), Nat.sub_self]; rfl)).2
        have k2 := (hX.2.1.1.2 t _ (mv_tys_at ht)).2
        rcases hprim with hp | hp <;> rw [hp] at k1 k2 <;> exact Option.some.inj (k1.symm.trans k2)
      subst ec
      have hwx : mv_wc h.1.length (.inl (t, n.toNatClampNeg, z)) = true := rfl
      have k := r3 (by show x.c0 ≤ h.2.1 + 1; omega) (by show x.s0 ≤ h.2.2 + n.toNatClampNeg; omega) r1 r2 (as ++ [q]) H1 locs ls ⟨by show _ = (h.1 ++ [_]).length; simp [hw.1], hw.2.1.trans (List.prefix_append _ _), by show va_P _ _ (mv_w _ _ _ (h.1 ++ [_])) _; rw [mv_w_push hw.1 q _ b3 hwx]; exact hP, by show va_D _ (mv_w _ _ _ (h.1 ++ [_])); rw [mv_w_push hw.1 q _ b3 hwx]; exact hD, hS⟩ (hl.app (by rw [hw.1]; exact b1))
      have e1 : h.2.1 + 1 - x.c0 = h.2.1 - x.c0 + 1 := by omega
      have e2 : h.2.2 + n.toNatClampNeg - x.s0 = h.2.2 - x.s0 + n.toNatClampNeg := by omega
      have e3 : ((Value.ref h.1.length :: st).map (mv_v (as ++ [q]) x.sd)) = .ref q :: st.map (mv_v as x.sd) := by
        rw [List.map_cons, mv_s_app (by rw [hw.1]; exact b2)]
        show Value.ref ((as ++ [q]).getD h.1.length 0) :: _ = _
        rw [mv_push_len hw.1]
      dsimp only at k
      rw [e1, e2, e3] at k
      exact k
  · cases e
theorem mn_obj {g : mv_Gp} {y pc idx : Nat} (hd : decode (g.M y).cc pc = .ok (.invokespecial idx, 3)) (hk1 : Cond.methodLink (g.M y).nm.cls idx Lib.objectInit ∈ g.G) (hk2 : Cond.instanceMethod Lib.objectInit ∈ g.G) (hk3 : Cond.code Lib.objectInit ⟨#[0xb1]⟩ 1 none ∈ g.G) (hfr : 1 ≤ (g.M y).fr) (hlo : 20 ≤ (g.M y).lo) : mv_Snd g y pc mi_obj := by
  intro x hX L stk h r e hr c1 c2 c3 c4 as H locs ls hw hl
  unfold mi_obj at e
  dsimp only at e
  split at e
  · rename_i q st
    split at e
    · cases e
      have hts := hX.1.2.2.2.2.2.2.2.2.2
      have q3 := hX.2.2.2.2.1
      have q4 := hX.2.2.2.2.2.1
      exact W.objInit hX.1.1 hX.1.2.1 hX.1.2.2.2.1 (hts _ hk1) (hts _ hk2) (hts _ hk3) rfl (by rw [hX.1.2.2.1]; exact hl.2.1) rfl hd (by omega) (by show 2 * 0 + (List.map _ ([] : List Value)).sum + 12 ≤ _; simp; omega) (hr.2.2 c1 c2 hr.1 hr.2.1 as H locs ls hw hl)
    · cases e
  · cases e
theorem mv_nd {g : mv_Gp} {x : mv_Cx} {as : List Nat} {h : mv_H} {H : Heap} {locs : List Loc} {t : State} (hw : mv_Wr g x as h H locs) (ht : t.heap = H) : mv_Nd g x.D x.cA x.sd x.A x.as0 h x.s t as := ⟨hw.2.1, hw.1, by rw [ht]; exact hw.2.2.1, hw.2.2.2.1, hw.2.2.2.2.F ht⟩
theorem mn_iret {g : mv_Gp} {y pc : Nat} (hd : decode (g.M y).cc pc = .ok (.ireturn, 1)) (hret : (g.M y).ret = some .int) : mv_Snd g y pc mi_iret := by
  intro x hX L stk h r e hr c1 c2 c3 c4 as H locs ls hw hl
  unfold mi_iret at e
  dsimp only at e
  split at e
  · rename_i v
    cases e
    obtain ⟨ho, hh⟩ := hr
    subst hh
    exact mz_ret (W.iret (v := v) hX.1.1 hX.1.2.1 (by rw [hX.1.2.2.2.2.2.1]; exact hret) (fun t ht hW => hX.2.2.2.2.2.2.1 (some (.int v)) as t ho (mv_nd hw ht) hW.alike) (fun q hq => hX.2.1.2.2.2 _ (hw.2.2.2.2.2.2 q hq)) hd hX.1.2.2.2.2.1)
  · cases e
theorem mn_zret {g : mv_Gp} {y pc : Nat} (hd : decode (g.M y).cc pc = .ok (.ireturn, 1)) (hret : (g.M y).ret = some .boolean) : mv_Snd g y pc mi_zret := by
  intro x hX L stk h r e hr c1 c2 c3 c4 as H locs ls hw hl
  unfold mi_zret at e
  dsimp only at e
  split at e
  · rename_i v
    split at e
    · rename_i hv
      cases e
      obtain ⟨ho, hh⟩ := hr
      subst hh
      exact mz_ret (W.zret (v := v) (ty := .boolean) hX.1.1 hX.1.2.1 (by rw [hX.1.2.2.2.2.2.1]; exact hret) (by rcases hv with rfl | rfl <;> decide) (fun t ht hW => hX.2.2.2.2.2.2.1 (some (.int v)) as t ho (mv_nd hw ht) hW.alike) (fun q hq => hX.2.1.2.2.2 _ (hw.2.2.2.2.2.2 q hq)) hd hX.1.2.2.2.2.1)
    · cases e
  · cases e
theorem mn_vret {g : mv_Gp} {y pc : Nat} (hd : decode (g.M y).cc pc = .ok (.return_, 1)) (hret : (g.M y).ret = none) : mv_Snd g y pc mi_vret := by
  intro x hX L stk h r e hr c1 c2 c3 c4 as H locs ls hw hl
  unfold mi_vret at e
  dsimp only at e
  split at e
  · cases e
    obtain ⟨ho, hh⟩ := hr
    subst hh
    exact mz_ret (W.vret hX.1.1 hX.1.2.1 (by rw [hX.1.2.2.2.2.2.1]; exact hret) (fun t ht hW => hX.2.2.2.2.2.2.1 none as t ho (mv_nd hw ht) hW.alike) (fun q hq => hX.2.1.2.2.2 _ (hw.2.2.2.2.2.2 q hq)) hd hX.1.2.2.2.2.1)
  · cases e
theorem mn_aret {g : mv_Gp} {y pc : Nat} {rt : FieldType} (hd : decode (g.M y).cc pc = .ok (.areturn, 1)) (hret : (g.M y).ret = some rt) (hrt : (∃ n, rt = .object n) ∨ ∃ t, rt = .array t) : mv_Snd g y pc mi_aret := by
  intro x hX L stk h r e hr c1 c2 c3 c4 as H locs ls hw hl
  unfold mi_aret at e
  dsimp only at e
  split at e
  · rename_i v
    cases e
    obtain ⟨ho, hh⟩ := hr
    subst hh
    exact mz_ret (W.aret (v := .ref (as.getD v 0)) hX.1.1 hX.1.2.1 (by rw [hX.1.2.2.2.2.2.1]; exact hret) hrt (Or.inr ⟨_, rfl⟩) (fun t ht hW => hX.2.2.2.2.2.2.1 (some (.ref v)) as t ho (mv_nd hw ht) hW.alike) (fun q hq => hX.2.1.2.2.2 _ (hw.2.2.2.2.2.2 q hq)) hd hX.1.2.2.2.2.1)
  · rename_i v
    cases e
    obtain ⟨ho, hh⟩ := hr
    subst hh
    exact mz_ret (W.aret (v := va_rf (x.sd v)) hX.1.1 hX.1.2.1 (by rw [hX.1.2.2.2.2.2.1]; exact hret) hrt (by cases x.sd v; exact Or.inl rfl; exact Or.inr ⟨_, rfl⟩) (fun t ht hW => hX.2.2.2.2.2.2.1 (some (.retAddr v)) as t ho (mv_nd hw ht) hW.alike) (fun q hq => hX.2.1.2.2.2 _ (hw.2.2.2.2.2.2 q hq)) hd hX.1.2.2.2.2.1)
  · cases e
