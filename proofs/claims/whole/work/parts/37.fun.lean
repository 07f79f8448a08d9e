/-! THE METHODS AS FUNCTIONS: registers and arrays; what a function says, the small machine does -/
abbrev CS : Type := (Nat → Int32) × (Nat → Nat → Int32)
def ru {β : Type} (f : Nat → β) (k : Nat) (v : β) : Nat → β := fun j => bif Nat.beq j k then v else f j
def fu : Nat := 5000
def lus (x : Int64) (y : Int32) : Int64 := (x.toUInt64 >>> (y.toInt64.toUInt64 &&& Int64.toUInt64 63)).toInt64
def lsr (x : Int64) (y : Int32) : Int64 := x >>> (y.toInt64 &&& 63)
def spf : List Int32 → Nat → Nat → (Nat → Int32) → Nat × (Nat → Int32)
  | [], _, cnt, a => (cnt, a)
  | b :: r, k, cnt, a => if b = 32 then spf r (k + 1) (cnt + 1) (upd a (cnt + 1) (nI (k + 1))) else spf r (k + 1) cnt a
def kst_7 : Nat → Int32 := (spf (ms_byt 0) 0 0 (fun _ => 0)).2
def kst_10 : Nat → Int32 := (spf (ms_byt 1) 0 0 (fun _ => 0)).2
def kst_8 : Nat → Int32 := va_cpy kst_7 (fun _ => 0) 0 0 46
def kst_11 : Nat → Int32 := va_cpy kst_10 (fun _ => 0) 0 0 49
def HPf (C M : CS) (o : Nat → Int64) : List mv_C := [.inr (0, [.ref 1, .ref 3, .ref 5, .ref 12, .ref 15, .int (C.1 0), .int (C.1 1)]), .inr (1, [.ref 2, .int (C.1 2)]), .inl (0, 2000, .inl (C.2 0)), .inr (2, [.int (C.1 3), .int (C.1 4), .int (C.1 5), .int (C.1 6), .int (C.1 7), .int (C.1 8), .int (C.1 9), .ref 4, .int (C.1 10)]), .inl (0, 2000, .inl (C.2 1)), .inr (3, [.ref 1, .ref 3, .ref 6, .ref 9, .int (C.1 11), .int (C.1 12)]), .inr (4, [.retAddr 0, .ref 8]), .inl (0, 289, .inl kst_7), .inl (0, 46, .inl kst_8), .inr (4, [.retAddr 1, .ref 11]), .inl (0, 128, .inl kst_10), .inl (0, 49, .inl kst_11), .inr (5, [.ref 13, .ref 14, .int (C.1 13)]), .inl (0, 2000, .inl (C.2 2)), .inl (0, 2000, .inl (C.2 3)), .inr (5, [.ref 16, .ref 17, .int (C.1 14)]), .inl (0, 8192, .inl (C.2 4)), .inl (0, 1024, .inl (C.2 5)), .inr (6, [.int (M.1 0), .ref 19, .int (M.1 1), .int (M.1 2), .int (M.1 3), .int (M.1 4), .int (M.1 5), .int (M.1 6), .int (M.1 7), .int (M.1 8), .int (M.1 9), .int (M.1 10), .int (M.1 11), .ref 20, .int (M.1 12), .int (M.1 13), .ref 21, .ref 22, .int (M.1 14), .ref 23, .ref 24]), .inl (0, 2000, .inl (M.2 0)), .inl (0, 2000, .inl (M.2 1)), .inl (0, 1000, .inl (M.2 2)), .inl (0, 2000, .inl (M.2 3)), .inl (0, 1024, .inl (M.2 4)), .inl (0, 8192, .inl (M.2 5)), .inl (1, 1, .inr (.inl o))]
def cvI (M : CS) (o : Nat → Int64) (c s : Nat) (r : (Int32 ⊕ Nat) × CS) : mv_O × mv_H := match r.1 with
  | .inl v => (.inl (some (.int v)), (HPf r.2 M o, c, s))
  | .inr k => (.inr k, (HPf r.2 M o, c + 1, s + 6))
def cvV (M : CS) (o : Nat → Int64) (c s : Nat) (r : (Int32 ⊕ Nat) × CS) : mv_O × mv_H := match r.1 with
  | .inl _ => (.inl none, (HPf r.2 M o, c, s))
  | .inr k => (.inr k, (HPf r.2 M o, c + 1, s + 6))
def mv_runT (t : Nat → Option mv_S) : Nat → mv_F → mv_H → Option (mv_F × mv_H)
  | 0, f, h => some (f, h)
  | n + 1, f, h =>
    match t f.1 with
    | none => none
    | some s =>
      match s f h with
      | some (.inl (f', h')) => mv_runT t n f' h'
      | _ => none
theorem mv_runT_eq {P : mv_P} {y : Nat} : ∀ n f h, mv_runT (P.1 y) n f h = mv_run P y n f h := by
  intro n
  induction n with
  | zero => intro f h; rfl
  | succ n ih =>
    intro f h
    rw [mv_runT, mv_run]
    cases P.1 y f.1 with
    | none => rfl
    | some s =>
      cases hs : s f h with
      | none => simp only [hs]
      | some q =>
        match q with
        | .inl (f1, h1) => simp only [hs]; exact ih f1 h1
        | .inr q => simp only [hs]
theorem mv_E.rT {P : mv_P} {y : Nat} {t : Nat → Option mv_S} (ht : P.1 y = t) (n : Nat) {f f' : mv_F} {h h' : mv_H} {r : mv_O × mv_H} (e : mv_runT t n f h = some (f', h')) (k : mv_E P y f' h' r) : mv_E P y f h r := by
  subst ht
  rw [mv_runT_eq] at e
  exact mv_E.run n e k
theorem mi_if_pos {b : Int32 → Prop} [DecidablePred b] {tgt pc : Nat} {L : List (Option Value)} {st : List Value} {h : mv_H} {x : Int32} (hb : b x) : mi_if b tgt (pc, L, .int x :: st) h = some (.inl ((tgt, L, st), h)) := by
  simp only [mi_if, if_pos hb]
theorem mi_if_neg {b : Int32 → Prop} [DecidablePred b] {tgt pc : Nat} {L : List (Option Value)} {st : List Value} {h : mv_H} {x : Int32} (hb : ¬ b x) : mi_if b tgt (pc, L, .int x :: st) h = some (.inl ((pc + 3, L, st), h)) := by
  simp only [mi_if, if_neg hb]
theorem mi_icmp_pos {b : Int32 → Int32 → Prop} [∀ x y, Decidable (b x y)] {tgt pc : Nat} {L : List (Option Value)} {st : List Value} {h : mv_H} {x y : Int32} (hb : b x y) : mi_icmp b tgt (pc, L, .int y :: .int x :: st) h = some (.inl ((tgt, L, st), h)) := by
  simp only [mi_icmp, if_pos hb]
theorem mi_icmp_neg {b : Int32 → Int32 → Prop} [∀ x y, Decidable (b x y)] {tgt pc : Nat} {L : List (Option Value)} {st : List Value} {h : mv_H} {x y : Int32} (hb : ¬ b x y) : mi_icmp b tgt (pc, L, .int y :: .int x :: st) h = some (.inl ((pc + 3, L, st), h)) := by
  simp only [mi_icmp, if_neg hb]
theorem mi_sw_at {ks : List (Int32 × Nat)} {d t pc : Nat} {L : List (Option Value)} {st : List Value} {h : mv_H} {x : Int32} (e : mv_sw x d ks = t) : mi_sw ks d (pc, L, .int x :: st) h = some (.inl ((t, L, st), h)) := by
  simp only [mi_sw, e]
theorem mi_iald_at {pc n : Nat} {L : List (Option Value)} {st : List Value} {h : mv_H} {q : Nat} {a : Nat → Int32} {i : Int32} (hq : h.1[q]? = some (.inl (0, n, .inl a))) (hb : mv_in i n = true) : mi_iald (pc, L, .int i :: .ref q :: st) h = some (.inl ((pc + 1, L, .int (a i.toNatClampNeg) :: st), h)) := by
  simp only [mi_iald, hq, hb, if_true]
theorem mi_iast_at {pc n : Nat} {L : List (Option Value)} {st : List Value} {h : mv_H} {q : Nat} {a : Nat → Int32} {i x : Int32} (hq : h.1[q]? = some (.inl (0, n, .inl a))) (hb : mv_in i n = true) : mi_iast (pc, L, .int x :: .int i :: .ref q :: st) h = some (.inl ((pc + 1, L, st), (h.1.set q (.inl (0, n, .inl (upd a i.toNatClampNeg x))), h.2.1, h.2.2))) := by
  simp only [mi_iast, hq, hb, if_true]
theorem mi_tld_at {tb : Nat → Option (Nat × (Nat → Int32))} {pc n : Nat} {L : List (Option Value)} {st : List Value} {h : mv_H} {q : Nat} {a : Nat → Int32} {i : Int32} (hq : tb q = some (n, a)) (hb : mv_in i n = true) : mi_tld tb (pc, L, .int i :: .retAddr q :: st) h = some (.inl ((pc + 1, L, .int (a i.toNatClampNeg) :: st), h)) := by
  simp only [mi_tld, hq, hb, if_true]
theorem mi_copy_at {pc n0 n1 q0 q1 : Nat} {L : List (Option Value)} {st : List Value} {h : mv_H} {a b : Nat → Int32} {n dp sp : Int32} (h0 : h.1[q0]? = some (.inl (0, n0, .inl a))) (h1 : h.1[q1]? = some (.inl (0, n1, .inl b))) (hb : (¬ sp < 0 ∧ ¬ dp < 0 ∧ ¬ n < 0) ∧ sp.toNatClampNeg + n.toNatClampNeg ≤ n0 ∧ dp.toNatClampNeg + n.toNatClampNeg ≤ n1) (hc : mv_cat st ≤ 8) :
    mi_copy (pc, L, .int n :: .int dp :: .ref q1 :: .int sp :: .ref q0 :: st) h = some (.inl ((pc + 3, L, st), (h.1.set q1 (.inl (0, n1, .inl (va_cpy a b sp.toNatClampNeg dp.toNatClampNeg n.toNatClampNeg))), h.2.1, h.2.2))) := by
  simp only [mi_copy, h0, h1]
  rw [if_pos ⟨hb.1, hb.2.1, hb.2.2, hc⟩]
theorem mi_zret_at {pc : Nat} {L : List (Option Value)} {h : mv_H} {x : Int32} (hb : x = 0 ∨ x = 1) : mi_zret (pc, L, [.int x]) h = some (.inr (.inl (.inl (some (.int x)), h))) := by
  simp only [mi_zret, if_pos hb]
theorem mi_zret0 {pc : Nat} {L : List (Option Value)} {h : mv_H} : mi_zret (pc, L, [.int 0]) h = some (.inr (.inl (.inl (some (.int 0)), h))) := mi_zret_at (Or.inl rfl)
theorem mi_zret1 {pc : Nat} {L : List (Option Value)} {h : mv_H} : mi_zret (pc, L, [.int 1]) h = some (.inr (.inl (.inl (some (.int 1)), h))) := mi_zret_at (Or.inr rfl)
theorem mi_nret_at {ty : FieldType} {pc : Nat} {L : List (Option Value)} {h : mv_H} {x : Int32} (hb : vp_nar ty x = x) : mi_nret ty (pc, L, [.int x]) h = some (.inr (.inl (.inl (some (.int x)), h))) := by
  simp only [mi_nret, if_pos hb]
theorem mi_getS_at {tb : Nat → Option Value} {pc : Nat} {L : List (Option Value)} {st : List Value} {h : mv_H} {q : Nat} {v : Value} (hq : tb q = some v) : mi_getS tb (pc, L, .retAddr q :: st) h = some (.inl ((pc + 3, L, v :: st), h)) := by
  simp only [mi_getS, hq]
theorem mi_tlen_at {tb : Nat → Option (Nat × (Nat → Int32))} {pc n : Nat} {L : List (Option Value)} {st : List Value} {h : mv_H} {q : Nat} {a : Nat → Int32} (hq : tb q = some (n, a)) : mi_tlen tb (pc, L, .retAddr q :: st) h = some (.inl ((pc + 1, L, .int (Int32.ofNat n) :: st), h)) := by
  simp only [mi_tlen, hq]
theorem mi_callK_at {b : Nat → Bool} {z n pc q : Nat} {L : List (Option Value)} {st vs : List Value} {h : mv_H} (ht : (st.take n).reverse = .retAddr q :: vs) (hb : b q = true) (h1 : Nat.ble n st.length = true) (h2 : Nat.ble (mv_cat (st.drop n)) 8 = true) : mi_callK b z n (pc, L, st) h = some (.inr (.inr (z, .retAddr q :: vs, (pc + 3, L, st.drop n), h))) := by
  simp only [mi_callK, ht, hb, h1, h2, Bool.and_self, cond_true]
