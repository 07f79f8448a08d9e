section
/-! THE SMALL MACHINE: a method's run as a plain function. A cell is an array of a kind, or an object of a class; a reference is a PLACE in the list of cells ('.ref k'), or a thing that stands outside it and is never written ('.retAddr k'). -/
abbrev mv_C : Type := (Nat × vp_A) ⊕ (Nat × List Value)
abbrev mv_H : Type := List mv_C × Nat × Nat
abbrev mv_F : Type := Nat × List (Option Value) × List Value
abbrev mv_O : Type := Option Value ⊕ Nat
abbrev mv_R : Type := (mv_F × mv_H) ⊕ ((mv_O × mv_H) ⊕ (Nat × List Value × mv_F × mv_H))
abbrev mv_S : Type := mv_F → mv_H → Option mv_R
/-- a program: the step at a method's pc; a method's number of locals; where a method catches what is thrown at a pc: the pc behind the handler's first store, and the local that it stores to -/
abbrev mv_P : Type := (Nat → Nat → Option mv_S) × (Nat → Nat) × (Nat → Nat → Nat → Option (Nat × Nat))
def mv_lay : List Value → List (Option Value)
  | [] => []
  | v :: vs => some v :: (match v with
    | .long _ => none :: mv_lay vs
    | .double _ => none :: mv_lay vs
    | _ => mv_lay vs)
def mv_entry (n : Nat) (vs : List Value) : List (Option Value) := mv_lay vs ++ List.replicate (n - (mv_lay vs).length) none
def mv_wv (n : Nat) : Value → Bool
  | .ref q => Nat.blt q n
  | _ => true
def mv_wl (n : Nat) : List (Option Value) → Bool
  | [] => true
  | some v :: r => mv_wv n v && mv_wl n r
  | none :: r => mv_wl n r
def mv_ws (n : Nat) : List Value → Bool
  | [] => true
  | v :: r => mv_wv n v && mv_ws n r
/-- behind a call: nothing was made, or the frame knows old places alone -/
def mv_ok (h h' : mv_H) (f : mv_F) : Bool := Nat.beq h.1.length h'.1.length || (mv_wl h.1.length f.2.1 && mv_ws h.1.length f.2.2)
/-- a long that ends where a store begins is gone -/
def mv_cl (L : List (Option Value)) (i : Nat) : List (Option Value) :=
  match i with
  | 0 => L
  | j + 1 => match L[j]? with
    | some (some (.long _)) => L.set j none
    | some (some (.double _)) => L.set j none
    | _ => L
def mv_x (P : mv_P) : Nat → Nat → mv_F → mv_H → Option (mv_O × mv_H)
  | 0, _, _, _ => none
  | n + 1, y, f, h =>
    match P.1 y f.1 with
    | none => none
    | some s =>
      match s f h with
      | none => none
      | some (.inl (f', h')) => mv_x P n y f' h'
      | some (.inr (.inl r)) => some r
      | some (.inr (.inr (z, vs, f', h'))) =>
        match (bif Nat.ble (mv_lay vs).length (P.2.1 z) then mv_x P n z (0, mv_entry (P.2.1 z) vs, []) h' else none) with
        | none => none
        | some (.inl v, h'') => bif mv_ok h' h'' f' then mv_x P n y (f'.1, f'.2.1, v.toList ++ f'.2.2) h'' else none
        | some (.inr x, h'') =>
          match P.2.2 y f.1 x with
          | none => some (.inr x, h'')
          | some (pc, i) => bif mv_ok h' h'' f' then mv_x P n y (pc, (mv_cl f'.2.1 i).set i none, []) h'' else none
theorem mv_x_mono (P : mv_P) : ∀ (n : Nat) (y : Nat) (f : mv_F) (h : mv_H) (r : mv_O × mv_H), mv_x P n y f h = some r → mv_x P (n + 1) y f h = some r := by
  intro n
  induction n with
  | zero => intro y f h r hr; simp [mv_x] at hr
  | succ n ih =>
    intro y f h r hr
    rw [mv_x] at hr
    rw [mv_x]
    cases hp : P.1 y f.1 with
    | none => simp [hp] at hr
    | some s =>
      simp only [hp] at hr ⊢
      cases hs : s f h with
      | none => simp [hs] at hr
      | some q =>
        simp only [hs] at hr ⊢
        match q, hr with
        | .inl (f', h'), hr => exact ih _ _ _ _ hr
        | .inr (.inl r'), hr => exact hr
        | .inr (.inr (z, vs, f', h')), hr =>
          dsimp only at hr ⊢
          cases hbn : Nat.ble (mv_lay vs).length (P.2.1 z) with
          | false => rw [hbn] at hr; simp at hr
          | true =>
          rw [hbn, cond_true] at hr
          rw [cond_true]
          cases hz : mv_x P n z (0, mv_entry (P.2.1 z) vs, []) h' with
          | none => simp [hz] at hr
          | some u =>
            rw [hz] at hr
            rw [ih _ _ _ _ hz]
            match u, hr with
            | (.inl v, h''), hr =>
              dsimp only at hr ⊢
              cases hk : mv_ok h' h'' f' with
              | false => simp [hk] at hr
              | true =>
                simp only [hk, cond_true] at hr ⊢
                exact ih _ _ _ _ hr
            | (.inr x, h''), hr =>
              dsimp only at hr ⊢
              cases hX : P.2.2 y f.1 x with
              | none => simp only [hX] at hr ⊢; exact hr
              | some pi =>
                obtain ⟨pc, i⟩ := pi
                simp only [hX] at hr ⊢
                cases hk : mv_ok h' h'' f' with
                | false => simp [hk] at hr
                | true =>
                  simp only [hk, cond_true] at hr ⊢
                  exact ih _ _ _ _ hr
theorem mv_x_le (P : mv_P) {n k : Nat} (hk : n ≤ k) {y : Nat} {f : mv_F} {h : mv_H} {r : mv_O × mv_H} (hr : mv_x P n y f h = some r) : mv_x P k y f h = some r := by
  induction hk with
  | refl => exact hr
  | step _ ih => exact mv_x_mono P _ _ _ _ _ ih
/-- it ends, so -/
def mv_E (P : mv_P) (y : Nat) (f : mv_F) (h : mv_H) (r : mv_O × mv_H) : Prop := ∃ n, mv_x P n y f h = some r
theorem mv_E.go {P : mv_P} {y : Nat} {f f' : mv_F} {h h' : mv_H} {r : mv_O × mv_H} {s : mv_S} (hp : P.1 y f.1 = some s) (hs : s f h = some (.inl (f', h'))) (k : mv_E P y f' h' r) : mv_E P y f h r := by
  obtain ⟨n, hn⟩ := k
  refine ⟨n + 1, ?_⟩
  rw [mv_x]
  simp only [hp, hs]
  exact hn
theorem mv_E.done {P : mv_P} {y : Nat} {f : mv_F} {h : mv_H} {r : mv_O × mv_H} {s : mv_S} (hp : P.1 y f.1 = some s) (hs : s f h = some (.inr (.inl r))) : mv_E P y f h r := by
  refine ⟨1, ?_⟩
  rw [mv_x]
  simp only [hp, hs]
theorem mv_E.call {P : mv_P} {y z : Nat} {f f' : mv_F} {h h' h'' : mv_H} {r : mv_O × mv_H} {s : mv_S} {vs : List Value} {v : Option Value} (hp : P.1 y f.1 = some s) (hs : s f h = some (.inr (.inr (z, vs, f', h')))) (hbn : Nat.ble (mv_lay vs).length (P.2.1 z) = true) (hz : mv_E P z (0, mv_entry (P.2.1 z) vs, []) h' (.inl v, h''))
    (ho : mv_ok h' h'' f' = true) (k : mv_E P y (f'.1, f'.2.1, v.toList ++ f'.2.2) h'' r) : mv_E P y f h r := by
  obtain ⟨n, hn⟩ := hz
  obtain ⟨n2, hn2⟩ := k
  refine ⟨max n n2 + 1, ?_⟩
  rw [mv_x]
  simp only [hp, hs, hbn, cond_true, mv_x_le P (Nat.le_max_left n n2) hn, ho, cond_true]
  exact mv_x_le P (Nat.le_max_right n n2) hn2
theorem mv_E.callX {P : mv_P} {y z x : Nat} {f f' : mv_F} {h h' h'' : mv_H} {s : mv_S} {vs : List Value} (hp : P.1 y f.1 = some s) (hs : s f h = some (.inr (.inr (z, vs, f', h')))) (hbn : Nat.ble (mv_lay vs).length (P.2.1 z) = true) (hz : mv_E P z (0, mv_entry (P.2.1 z) vs, []) h' (.inr x, h''))
    (hX : P.2.2 y f.1 x = none) : mv_E P y f h (.inr x, h'') := by
  obtain ⟨n, hn⟩ := hz
  refine ⟨n + 1, ?_⟩
  rw [mv_x]
  simp only [hp, hs, hbn, cond_true, hn, hX]
theorem mv_E.callC {P : mv_P} {y z x pc i : Nat} {f f' : mv_F} {h h' h'' : mv_H} {r : mv_O × mv_H} {s : mv_S} {vs : List Value} (hp : P.1 y f.1 = some s) (hs : s f h = some (.inr (.inr (z, vs, f', h')))) (hbn : Nat.ble (mv_lay vs).length (P.2.1 z) = true) (hz : mv_E P z (0, mv_entry (P.2.1 z) vs, []) h' (.inr x, h''))
    (hX : P.2.2 y f.1 x = some (pc, i)) (ho : mv_ok h' h'' f' = true) (k : mv_E P y (pc, (mv_cl f'.2.1 i).set i none, []) h'' r) : mv_E P y f h r := by
  obtain ⟨n, hn⟩ := hz
  obtain ⟨n2, hn2⟩ := k
  refine ⟨max n n2 + 1, ?_⟩
  rw [mv_x]
  simp only [hp, hs, hbn, cond_true, mv_x_le P (Nat.le_max_left n n2) hn, hX, ho, cond_true]
  exact mv_x_le P (Nat.le_max_right n n2) hn2
/-- several steps that call nothing -/
def mv_run (P : mv_P) (y : Nat) : Nat → mv_F → mv_H → Option (mv_F × mv_H)
  | 0, f, h => some (f, h)
  | n + 1, f, h =>
    match P.1 y f.1 with
    | none => none
    | some s =>
      match s f h with
      | some (.inl (f', h')) => mv_run P y n f' h'
      | _ => none
theorem mv_E.run {P : mv_P} {y : Nat} (n : Nat) : ∀ {f f' : mv_F} {h h' : mv_H} {r : mv_O × mv_H}, mv_run P y n f h = some (f', h') → mv_E P y f' h' r → mv_E P y f h r := by
  induction n with
  | zero => intro f f' h h' r e k; simp only [mv_run, Option.some.injEq, Prod.mk.injEq] at e; rw [e.1, e.2]; exact k
  | succ n ih =>
    intro f f' h h' r e k
    rw [mv_run] at e
    cases hp : P.1 y f.1 with
    | none => simp [hp] at e
    | some s =>
      simp only [hp] at e
      cases hs : s f h with
      | none => simp [hs] at e
      | some q =>
        simp only [hs] at e
        match q, hs, e with
        | .inl (f1, h1), hs, e => exact mv_E.go hp hs (ih e k)
        | .inr q, _, e => cases q <;> simp at e
/-- a branch -/
theorem mv_E.br {P : mv_P} {y : Nat} {f f1 f2 : mv_F} {h h' : mv_H} {r : mv_O × mv_H} {s : mv_S} {b : Prop} [Decidable b] (hp : P.1 y f.1 = some s) (hs : s f h = some (.inl (if b then f1 else f2, h'))) (k1 : b → mv_E P y f1 h' r) (k2 : ¬ b → mv_E P y f2 h' r) : mv_E P y f h r := by
  refine mv_E.go hp hs ?_
  by_cases hb : b
  · rw [if_pos hb]; exact k1 hb
  · rw [if_neg hb]; exact k2 hb
end
section
/-! THE SMALL MACHINE'S STEPS. 's_..': an instruction; 'n' in the middle: its length. -/
def mi_pure (len : Nat) (g : List Value → Option (List Value)) : mv_S := fun f h =>
  match g f.2.2 with
  | some st => some (.inl ((f.1 + len, f.2.1, st), h))
  | none => none
def mo_push (v : Value) : List Value → Option (List Value) := fun st => some (v :: st)
def mo_ii (op : Int32 → Int32 → Int32) : List Value → Option (List Value)
  | .int y :: .int x :: st => some (.int (op x y) :: st)
  | _ => none
def mo_ll (op : Int64 → Int64 → Int64) : List Value → Option (List Value)
  | .long y :: .long x :: st => some (.long (op x y) :: st)
  | _ => none
def mo_li (op : Int64 → Int32 → Int64) : List Value → Option (List Value)
  | .int y :: .long x :: st => some (.long (op x y) :: st)
  | _ => none
def mo_lli (op : Int64 → Int64 → Int32) : List Value → Option (List Value)
  | .long y :: .long x :: st => some (.int (op x y) :: st)
  | _ => none
def mo_i (op : Int32 → Int32) : List Value → Option (List Value)
  | .int x :: st => some (.int (op x) :: st)
  | _ => none
def mo_i2l : List Value → Option (List Value)
  | .int x :: st => some (.long x.toInt64 :: st)
  | _ => none
def mo_l2i : List Value → Option (List Value)
  | .long x :: st => some (.int x.toInt32 :: st)
  | _ => none
def mo_dup : List Value → Option (List Value)
  | .int x :: st => some (.int x :: .int x :: st)
  | .ref x :: st => some (.ref x :: .ref x :: st)
  | _ => none
def mo_dup_x1 : List Value → Option (List Value)
  | .int x :: .ref y :: st => some (.int x :: .ref y :: .int x :: st)
  | .int x :: .int y :: st => some (.int x :: .int y :: .int x :: st)
  | _ => none
def mo_dup2 : List Value → Option (List Value)
  | .int x :: .ref y :: st => some (.int x :: .ref y :: .int x :: .ref y :: st)
  | _ => none
def mo_pop : List Value → Option (List Value)
  | .int _ :: st => some st
  | .ref _ :: st => some st
  | _ => none
def mi_iload (len i : Nat) : mv_S := fun f h =>
  match f.2.1[i]? with
  | some (some (.int x)) => some (.inl ((f.1 + len, f.2.1, .int x :: f.2.2), h))
  | _ => none
def mi_lload (len i : Nat) : mv_S := fun f h =>
  match f.2.1[i]? with
  | some (some (.long x)) => some (.inl ((f.1 + len, f.2.1, .long x :: f.2.2), h))
  | _ => none
def mi_aload (len i : Nat) : mv_S := fun f h =>
  match f.2.1[i]? with
  | some (some (.ref x)) => some (.inl ((f.1 + len, f.2.1, .ref x :: f.2.2), h))
  | some (some (.retAddr x)) => some (.inl ((f.1 + len, f.2.1, .retAddr x :: f.2.2), h))
  | _ => none
def mv_st1 (L : List (Option Value)) (i : Nat) (v : Value) : List (Option Value) := (mv_cl L i).set i (some v)
def mv_st2 (L : List (Option Value)) (i : Nat) (v : Value) : List (Option Value) := ((mv_cl L i).set i (some v)).set (i + 1) none
def mi_istore (len i : Nat) : mv_S := fun f h =>
  match f.2.2 with
  | .int x :: st => some (.inl ((f.1 + len, mv_st1 f.2.1 i (.int x), st), h))
  | _ => none
def mi_lstore (len i : Nat) : mv_S := fun f h =>
  match f.2.2 with
  | .long x :: st => some (.inl ((f.1 + len, mv_st2 f.2.1 i (.long x), st), h))
  | _ => none
def mi_astore (len i : Nat) : mv_S := fun f h =>
  match f.2.2 with
  | .ref x :: st => some (.inl ((f.1 + len, mv_st1 f.2.1 i (.ref x), st), h))
  | .retAddr x :: st => some (.inl ((f.1 + len, mv_st1 f.2.1 i (.retAddr x), st), h))
  | _ => none
def mi_iinc (i : Nat) (n : Int32) : mv_S := fun f h =>
  match f.2.1[i]? with
  | some (some (.int x)) => some (.inl ((f.1 + 3, mv_st1 f.2.1 i (.int (x + n)), f.2.2), h))
  | _ => none
def mi_goto (tgt : Nat) : mv_S := fun f h => some (.inl ((tgt, f.2.1, f.2.2), h))
def mi_if (b : Int32 → Prop) [DecidablePred b] (tgt : Nat) : mv_S := fun f h =>
  match f.2.2 with
  | .int x :: st => some (.inl (if b x then (tgt, f.2.1, st) else (f.1 + 3, f.2.1, st), h))
  | _ => none
def mi_icmp (b : Int32 → Int32 → Prop) [∀ x y, Decidable (b x y)] (tgt : Nat) : mv_S := fun f h =>
  match f.2.2 with
  | .int y :: .int x :: st => some (.inl (if b x y then (tgt, f.2.1, st) else (f.1 + 3, f.2.1, st), h))
  | _ => none
/-- a switch: the targets of the keys, and the other one -/
def mv_sw (x : Int32) (d : Nat) : List (Int32 × Nat) → Nat
  | [] => d
  | (k, t) :: r => if x = k then t else mv_sw x d r
def mi_sw (ks : List (Int32 × Nat)) (d : Nat) : mv_S := fun f h =>
  match f.2.2 with
  | .int x :: st => some (.inl ((mv_sw x d ks, f.2.1, st), h))
  | _ => none
def mi_iret : mv_S := fun f h =>
  match f.2.2 with
  | [.int x] => some (.inr (.inl (.inl (some (.int x)), h)))
  | _ => none
def mi_zret : mv_S := fun f h =>
  match f.2.2 with
  | [.int x] => if x = 0 ∨ x = 1 then some (.inr (.inl (.inl (some (.int x)), h))) else none
  | _ => none
def mi_vret : mv_S := fun f h =>
  match f.2.2 with
  | [] => some (.inr (.inl (.inl none, h)))
  | _ => none
def mi_aret : mv_S := fun f h =>
  match f.2.2 with
  | [.ref x] => some (.inr (.inl (.inl (some (.ref x)), h)))
  | [.retAddr x] => some (.inr (.inl (.inl (some (.retAddr x)), h)))
  | _ => none
def mi_get (ci k : Nat) : mv_S := fun f h =>
  match f.2.2 with
  | .ref q :: st => match h.1[q]? with
    | some (.inr (cj, fs)) => bif Nat.beq cj ci then (match fs[k]? with
      | some v => some (.inl ((f.1 + 3, f.2.1, v :: st), h))
      | none => none) else none
    | _ => none
  | _ => none
/-- is it a value that such a field takes as it is? -/
def mv_fit (ty : FieldType) (v : Value) : Bool :=
  match ty, v with
  | .int, .int _ => true
  | .long, .long _ => true
  | .boolean, .int x => decide (x = 0) || decide (x = 1)
  | .object _, .ref _ => true
  | .object _, .retAddr _ => true
  | .array _, .ref _ => true
  | _, _ => false
def mi_put (ci k : Nat) (ty : FieldType) : mv_S := fun f h =>
  match f.2.2 with
  | v :: .ref q :: st => match h.1[q]? with
    | some (.inr (cj, fs)) => bif Nat.beq cj ci && mv_fit ty v && Nat.blt k fs.length then some (.inl ((f.1 + 3, f.2.1, st), (h.1.set q (.inr (ci, fs.set k v)), h.2.1, h.2.2))) else none
    | _ => none
  | _ => none
/-- is it a place of an array? -/
def mv_in (i : Int32) (n : Nat) : Bool := !(decide (i < 0)) && decide (i.toNatClampNeg < n)
def mi_iald : mv_S := fun f h =>
  match f.2.2 with
  | .int i :: .ref q :: st => match h.1[q]? with
    | some (.inl (0, n, .inl a)) => if mv_in i n = true then some (.inl ((f.1 + 1, f.2.1, .int (a i.toNatClampNeg) :: st), h)) else none
    | _ => none
  | _ => none
def mi_iast : mv_S := fun f h =>
  match f.2.2 with
  | .int x :: .int i :: .ref q :: st => match h.1[q]? with
    | some (.inl (0, n, .inl a)) => if mv_in i n = true then some (.inl ((f.1 + 1, f.2.1, st), (h.1.set q (.inl (0, n, .inl (upd a i.toNatClampNeg x))), h.2.1, h.2.2))) else none
    | _ => none
  | _ => none
def mi_lald : mv_S := fun f h =>
  match f.2.2 with
  | .int i :: .ref q :: st => match h.1[q]? with
    | some (.inl (1, n, .inr (.inl a))) => if mv_in i n = true then some (.inl ((f.1 + 1, f.2.1, .long (a i.toNatClampNeg) :: st), h)) else none
    | _ => none
  | _ => none
def mi_last : mv_S := fun f h =>
  match f.2.2 with
  | .long x :: .int i :: .ref q :: st => match h.1[q]? with
    | some (.inl (1, n, .inr (.inl a))) => if mv_in i n = true then some (.inl ((f.1 + 1, f.2.1, st), (h.1.set q (.inl (1, n, .inr (.inl (vp_updL a i.toNatClampNeg x)))), h.2.1, h.2.2))) else none
    | _ => none
  | _ => none
def mi_alen (t : Nat) : mv_S := fun f h =>
  match f.2.2 with
  | .ref q :: st => match h.1[q]? with
    | some (.inl (t9, n, _)) => bif Nat.beq t9 t then some (.inl ((f.1 + 1, f.2.1, .int (Int32.ofNat n) :: st), h)) else none
    | _ => none
  | _ => none
def mv_wc (n : Nat) : mv_C → Bool
  | .inl _ => true
  | .inr o => mv_ws n o.2
def mv_wh (n : Nat) : List mv_C → Bool
  | [] => true
  | x :: r => mv_wc n x && mv_wh n r
def mv_all (f : mv_F) (h : mv_H) : Bool := mv_wl h.1.length f.2.1 && mv_ws h.1.length f.2.2 && mv_wh h.1.length h.1
def mi_new (ci : Nat) (fs : List Value) : mv_S := fun f h =>
  bif mv_all f h then some (.inl ((f.1 + 3, f.2.1, .ref h.1.length :: f.2.2), (h.1 ++ [.inr (ci, fs)], h.2.1 + 1, h.2.2 + fs.length))) else none
def mi_newa (t : Nat) (z : (Nat → Int32) ⊕ (Nat → Int64) ⊕ (Nat → UInt32) ⊕ (Nat → UInt64) ⊕ (Nat → Option Nat)) : mv_S := fun f h =>
  match f.2.2 with
  | .int n :: st => bif mv_all f h && !(decide (n < 0)) && decide (n.toNatClampNeg ≤ 1000000) then some (.inl ((f.1 + 2, f.2.1, .ref h.1.length :: st), (h.1 ++ [.inl (t, n.toNatClampNeg, z)], h.2.1 + 1, h.2.2 + n.toNatClampNeg))) else none
  | _ => none
def mv_cat : List Value → Nat
  | [] => 0
  | v :: r => v.category + mv_cat r
/-- a call: n values on the stack (the receiver among them) go to method z; the receiver is an object of class ci -/
def mi_callV (ci z n : Nat) : mv_S := fun f h =>
  match (f.2.2.take n).reverse with
  | .ref q :: vs => match h.1[q]? with
    | some (.inr (cj, _)) => bif Nat.beq cj ci && Nat.ble n f.2.2.length && Nat.ble (mv_cat (f.2.2.drop n)) 8 then some (.inr (.inr (z, .ref q :: vs, (f.1 + 3, f.2.1, f.2.2.drop n), h))) else none
    | _ => none
  | _ => none
/-- .. the receiver is a new object -/
def mi_callI (z n : Nat) : mv_S := fun f h =>
  match (f.2.2.take n).reverse with
  | .ref q :: vs => bif Nat.ble n f.2.2.length && Nat.ble (mv_cat (f.2.2.drop n)) 8 then some (.inr (.inr (z, .ref q :: vs, (f.1 + 3, f.2.1, f.2.2.drop n), h))) else none
  | _ => none
/-- .. the receiver stands outside -/
def mi_callK (b : Nat → Bool) (z n : Nat) : mv_S := fun f h =>
  match (f.2.2.take n).reverse with
  | .retAddr q :: vs => bif b q && Nat.ble n f.2.2.length && Nat.ble (mv_cat (f.2.2.drop n)) 8 then some (.inr (.inr (z, .retAddr q :: vs, (f.1 + 3, f.2.1, f.2.2.drop n), h))) else none
  | _ => none
/-- .. no receiver -/
def mi_callS (z n : Nat) : mv_S := fun f h => bif Nat.ble n f.2.2.length && Nat.ble (mv_cat (f.2.2.drop n)) 8 then some (.inr (.inr (z, (f.2.2.take n).reverse, (f.1 + 3, f.2.1, f.2.2.drop n), h))) else none
/-- 'throw new E("..")', from its new on -/
def mi_throw (k : Nat) : mv_S := fun f h =>
  match f.2.2 with
  | [] => some (.inr (.inl (.inr k, (h.1, h.2.1 + 1, h.2.2 + 6))))
  | _ => none
/-- Object's constructor -/
def mi_obj : mv_S := fun f h =>
  match f.2.2 with
  | .ref _ :: st => match st with
    | [] => some (.inl ((f.1 + 3, f.2.1, []), h))
    | _ => none
  | _ => none
end
section
/-! THE SMALL MACHINE AND THE MACHINE: places are addresses (as), things outside have theirs (sd), kinds of arrays their classes (cA) -/
def mv_v (as : List Nat) (sd : Nat → Option Nat) : Value → Value
  | .ref q => .ref (as.getD q 0)
  | .retAddr k => va_rf (sd k)
  | v => v
theorem mv_v_cat (as : List Nat) (sd : Nat → Option Nat) (v : Value) : (mv_v as sd v).category = v.category := by
  cases v with
  | retAddr k => show (va_rf (sd k)).category = 1; cases sd k <;> rfl
  | _ => rfl
def mv_c (as : List Nat) (sd : Nat → Option Nat) (cA : Nat → ClassId) : mv_C → va_E
  | .inl a => .inl (cA a.1, a.2)
  | .inr o => .inr (o.1, o.2.map (mv_v as sd))
def mv_w (as : List Nat) (sd : Nat → Option Nat) (cA : Nat → ClassId) (h : List mv_C) : va_W := List.zipWith (fun a x => (a, mv_c as sd cA x)) as h
theorem mv_getD {as : List Nat} {k : Nat} (hk : k < as.length) : as[k]? = some (as.getD k 0) := by
  rw [List.getD_eq_getElem?_getD, List.getElem?_eq_getElem hk]; rfl
theorem mv_w_at {as : List Nat} {sd : Nat → Option Nat} {cA : Nat → ClassId} {h : List mv_C} {k : Nat} {x : mv_C} (hl : as.length = h.length) (hk : h[k]? = some x) : (mv_w as sd cA h)[k]? = some (as.getD k 0, mv_c as sd cA x) := by
  have hlt : k < h.length := (List.getElem?_eq_some_iff.mp hk).1
  have ha := mv_getD (as := as) (k := k) (by omega)
  unfold mv_w
  rw [List.getElem?_zipWith, ha, hk]
theorem mv_w_len {as : List Nat} {sd : Nat → Option Nat} {cA : Nat → ClassId} {h : List mv_C} (hl : as.length = h.length) : (mv_w as sd cA h).length = h.length := by
  unfold mv_w; rw [List.length_zipWith]; omega
theorem mv_w_set {as : List Nat} {sd : Nat → Option Nat} {cA : Nat → ClassId} {h : List mv_C} (hl : as.length = h.length) (k : Nat) (x : mv_C) : mv_w as sd cA (h.set k x) = (mv_w as sd cA h).set k (as.getD k 0, mv_c as sd cA x) := by
  apply List.ext_getElem?
  intro i
  by_cases hi : i < h.length
  · by_cases hik : k = i
    · subst hik
      rw [mv_w_at (x := x) (by rw [List.length_set]; exact hl) (by rw [List.getElem?_set_self hi]), List.getElem?_set_self (by rw [mv_w_len hl]; exact hi)]
    · rw [List.getElem?_set_ne hik, mv_w_at (x := h[i]) (by rw [List.length_set]; exact hl) (by rw [List.getElem?_set_ne hik, List.getElem?_eq_getElem hi]), mv_w_at hl (List.getElem?_eq_getElem hi)]
  · rw [List.getElem?_eq_none (by rw [mv_w_len (by rw [List.length_set]; exact hl), List.length_set]; omega), List.getElem?_eq_none (by rw [List.length_set, mv_w_len hl]; omega)]
theorem mv_v_app {as : List Nat} {t : List Nat} {sd : Nat → Option Nat} {v : Value} (h : mv_wv as.length v = true) : mv_v (as ++ t) sd v = mv_v as sd v := by
  cases v with
  | ref q =>
    have hq : q < as.length := by simpa [mv_wv] using h
    simp only [mv_v, List.getD_eq_getElem?_getD, List.getElem?_append_left hq]
  | _ => rfl
theorem mv_s_app {as : List Nat} {t : List Nat} {sd : Nat → Option Nat} : ∀ {st : List Value}, mv_ws as.length st = true → st.map (mv_v (as ++ t) sd) = st.map (mv_v as sd)
  | [], _ => rfl
  | v :: r, h => by
    simp only [mv_ws, Bool.and_eq_true] at h
    simp only [List.map_cons, mv_v_app h.1, mv_s_app h.2]
theorem mv_c_app {as : List Nat} {t : List Nat} {sd : Nat → Option Nat} {cA : Nat → ClassId} {x : mv_C} (h : mv_wc as.length x = true) : mv_c (as ++ t) sd cA x = mv_c as sd cA x := by
  cases x with
  | inl a => rfl
  | inr o => simp only [mv_c, mv_s_app (show mv_ws as.length o.2 = true from h)]
theorem mv_wh_at {n : Nat} : ∀ {h : List mv_C} {k : Nat} {x : mv_C}, mv_wh n h = true → h[k]? = some x → mv_wc n x = true
  | [], _, _, _, e => by simp at e
  | y :: r, 0, x, hw, e => by
    simp only [mv_wh, Bool.and_eq_true] at hw
    simp only [List.getElem?_cons_zero, Option.some.injEq] at e
    rw [← e]; exact hw.1
  | y :: r, k + 1, x, hw, e => by
    simp only [mv_wh, Bool.and_eq_true] at hw
    simp only [List.getElem?_cons_succ] at e
    exact mv_wh_at hw.2 e
/-- a new cell -/
theorem mv_w_push {as : List Nat} {sd : Nat → Option Nat} {cA : Nat → ClassId} {h : List mv_C} (hl : as.length = h.length) (q : Nat) (x : mv_C) (hw : mv_wh h.length h = true) (hx : mv_wc h.length x = true) : mv_w (as ++ [q]) sd cA (h ++ [x]) = mv_w as sd cA h ++ [(q, mv_c as sd cA x)] := by
  rw [← hl] at hw hx
  apply List.ext_getElem?
  intro i
  rcases Nat.lt_trichotomy i h.length with hi | hi | hi
  · rw [List.getElem?_append_left (by rw [mv_w_len hl]; exact hi), mv_w_at hl (List.getElem?_eq_getElem hi)]
    rw [mv_w_at (x := h[i]) (by simp [hl]) (by rw [List.getElem?_append_left hi, List.getElem?_eq_getElem hi])]
    rw [mv_c_app (mv_wh_at hw (List.getElem?_eq_getElem hi)), List.getD_eq_getElem?_getD, List.getElem?_append_left (by omega), ← List.getD_eq_getElem?_getD]
  · subst hi
    rw [List.getElem?_append_right (by rw [mv_w_len hl]; exact Nat.le_refl _), mv_w_len hl, Nat.sub_self]
    rw [mv_w_at (x := x) (by simp [hl]) (by simp), mv_c_app hx, ← hl]
    simp
  · rw [List.getElem?_eq_none (by rw [mv_w_len (by simp [hl])]; simp; omega), List.getElem?_eq_none (by simp [mv_w_len hl]; omega)]
/-- the locals -/
def mv_L (as : List Nat) (sd : Nat → Option Nat) (ls : Array Slot) (nL : Nat) (L : List (Option Value)) : Prop := L.length = nL ∧ ls.size = nL ∧ lv_wf ls ∧ ∀ (i : Nat) (v : Value), L[i]? = some (some v) → ls[i]? = some (.val (mv_v as sd v))
def mv_al (as : List Nat) (sd : Nat → Option Nat) (L : List (Option Value)) : List (Nat × Value) := (List.range L.length).filterMap (fun i => (L.getD i none).map (fun v => (i, mv_v as sd v)))
theorem mv_al_mem {as : List Nat} {sd : Nat → Option Nat} {L : List (Option Value)} {i : Nat} {v : Value} (h : L[i]? = some (some v)) : (i, mv_v as sd v) ∈ mv_al as sd L := by
  refine List.mem_filterMap.mpr ⟨i, List.mem_range.mpr (List.getElem?_eq_some_iff.mp h).1, ?_⟩
  rw [List.getD_eq_getElem?_getD, h]; rfl
theorem mv_L.has {as : List Nat} {sd : Nat → Option Nat} {ls : Array Slot} {nL : Nat} {L : List (Option Value)} (h : mv_L as sd ls nL L) : lv_has ls nL (mv_al as sd L) := by
  refine ⟨h.2.1, h.2.2.1, fun q hq => ?_⟩
  obtain ⟨i, hi, e⟩ := List.mem_filterMap.mp hq
  have hi := List.mem_range.mp hi
  cases hv : L.getD i none with
  | none => rw [hv] at e; cases e
  | some v =>
    rw [hv] at e
    cases e
    refine h.2.2.2 i v ?_
    rw [List.getD_eq_getElem?_getD, List.getElem?_eq_getElem hi] at hv
    rw [List.getElem?_eq_getElem hi]
    exact congrArg some hv
theorem mv_cl_len (L : List (Option Value)) (i : Nat) : (mv_cl L i).length = L.length := by
  cases i with
  | zero => rfl
  | succ j =>
    unfold mv_cl
    dsimp only
    split <;> simp
theorem mv_cl_at {L : List (Option Value)} {i j : Nat} {w : Value} (h : (mv_cl L i)[j]? = some (some w)) : L[j]? = some (some w) ∧ ¬ (j + 1 = i ∧ w.category = 2) := by
  cases i with
  | zero => exact ⟨h, fun q => by omega⟩
  | succ k =>
    unfold mv_cl at h
    dsimp only at h
    split at h
    · by_cases hjk : k = j
      · subst hjk
        by_cases hl : k < L.length
        · rw [List.getElem?_set_self hl] at h; cases h
        · rw [List.getElem?_eq_none (by simpa using hl)] at h; cases h
      · rw [List.getElem?_set_ne hjk] at h
        exact ⟨h, fun q => hjk (by omega)⟩
    · by_cases hjk : k = j
      · subst hjk
        by_cases hl : k < L.length
        · rw [List.getElem?_set_self hl] at h; cases h
        · rw [List.getElem?_eq_none (by simpa using hl)] at h; cases h
      · rw [List.getElem?_set_ne hjk] at h
        exact ⟨h, fun q => hjk (by omega)⟩
    · rename_i h1 h2
      refine ⟨h, fun q => ?_⟩
      have hjk : j = k := by omega
      subst hjk
      cases w with
      | long z => exact h1 z h
      | double z => exact h2 z h
      | _ => simp [Value.category] at q
theorem mv_L.st1 {as : List Nat} {sd : Nat → Option Nat} {ls' : Array Slot} {nL : Nat} {L : List (Option Value)} {i : Nat} {v : Value} (hL : L.length = nL)
    (h : lv_has ls' nL ((i, mv_v as sd v) :: (mv_al as sd L).filter (fun q => !(q.1 == i) && !(q.1 + 1 == i && q.2.category == 2)))) : mv_L as sd ls' nL (mv_st1 L i v) := by
  refine ⟨by unfold mv_st1; rw [List.length_set, mv_cl_len, hL], h.1, h.2.1, fun j w hj => ?_⟩
  unfold mv_st1 at hj
  by_cases hij : i = j
  · subst hij
    by_cases hl : i < (mv_cl L i).length
    · rw [List.getElem?_set_self hl] at hj
      cases hj
      exact h.2.2 _ List.mem_cons_self
    · rw [List.getElem?_eq_none (by simpa using hl)] at hj; cases hj
  · rw [List.getElem?_set_ne hij] at hj
    obtain ⟨h1, h2⟩ := mv_cl_at hj
    refine h.2.2 (j, mv_v as sd w) (List.mem_cons_of_mem _ (List.mem_filter.mpr ⟨mv_al_mem h1, ?_⟩))
    rw [mv_v_cat]
    have a1 : (j == i) = false := by simpa using fun q => hij q.symm
    have a2 : (j + 1 == i && w.category == 2) = false := by
      cases hb : (j + 1 == i && w.category == 2) with
      | false => rfl
      | true => simp at hb; exact absurd hb h2
    rw [a1, a2]; rfl
theorem mv_L.st2 {as : List Nat} {sd : Nat → Option Nat} {ls' : Array Slot} {nL : Nat} {L : List (Option Value)} {i : Nat} {v : Value} (hL : L.length = nL)
    (h : lv_has ls' nL ((i, mv_v as sd v) :: (mv_al as sd L).filter (fun q => !(q.1 == i) && (!(q.1 == i + 1) && !(q.1 + 1 == i && q.2.category == 2))))) : mv_L as sd ls' nL (mv_st2 L i v) := by
  refine ⟨by unfold mv_st2; rw [List.length_set, List.length_set, mv_cl_len, hL], h.1, h.2.1, fun j w hj => ?_⟩
  unfold mv_st2 at hj
  by_cases hij1 : i + 1 = j
  · subst hij1
    by_cases hl : i + 1 < ((mv_cl L i).set i (some v)).length
    · rw [List.getElem?_set_self hl] at hj; cases hj
    · rw [List.getElem?_eq_none (by simpa using hl)] at hj; cases hj
  · rw [List.getElem?_set_ne hij1] at hj
    by_cases hij : i = j
    · subst hij
      by_cases hl : i < (mv_cl L i).length
      · rw [List.getElem?_set_self hl] at hj
        cases hj
        exact h.2.2 _ List.mem_cons_self
      · rw [List.getElem?_eq_none (by simpa using hl)] at hj; cases hj
    · rw [List.getElem?_set_ne hij] at hj
      obtain ⟨h1, h2⟩ := mv_cl_at hj
      refine h.2.2 (j, mv_v as sd w) (List.mem_cons_of_mem _ (List.mem_filter.mpr ⟨mv_al_mem h1, ?_⟩))
      rw [mv_v_cat]
      have a1 : (j == i) = false := by simpa using fun q => hij q.symm
      have a3 : (j == i + 1) = false := by simpa using fun q => hij1 q.symm
      have a2 : (j + 1 == i && w.category == 2) = false := by
        cases hb : (j + 1 == i && w.category == 2) with
        | false => rfl
        | true => simp at hb; exact absurd hb h2
      rw [a1, a2, a3]; rfl
theorem mv_L.app {as t : List Nat} {sd : Nat → Option Nat} {ls : Array Slot} {nL : Nat} : ∀ {L : List (Option Value)}, mv_L as sd ls nL L → mv_wl as.length L = true → mv_L (as ++ t) sd ls nL L := by
  intro L h hw
  refine ⟨h.1, h.2.1, h.2.2.1, fun i v hi => ?_⟩
  rw [mv_v_app]
  · exact h.2.2.2 i v hi
  · clear h
    induction L generalizing i with
    | nil => simp at hi
    | cons a r ih =>
      cases i with
      | zero =>
        simp only [List.getElem?_cons_zero, Option.some.injEq] at hi
        subst hi
        simp only [mv_wl, Bool.and_eq_true] at hw
        exact hw.1
      | succ i =>
        simp only [List.getElem?_cons_succ] at hi
        cases a with
        | none => exact ih hw i hi
        | some a => simp only [mv_wl, Bool.and_eq_true] at hw; exact ih hw.2 i hi
theorem mv_L.forget {as : List Nat} {sd : Nat → Option Nat} {ls : Array Slot} {nL : Nat} {L : List (Option Value)} (h : mv_L as sd ls nL L) (i : Nat) : mv_L as sd ls nL (L.set i none) := by
  refine ⟨by rw [List.length_set]; exact h.1, h.2.1, h.2.2.1, fun j v hj => ?_⟩
  by_cases hij : i = j
  · subst hij
    by_cases hl : i < L.length
    · rw [List.getElem?_set_self hl] at hj; cases hj
    · rw [List.getElem?_eq_none (by simpa using hl)] at hj; cases hj
  · rw [List.getElem?_set_ne hij] at hj
    exact h.2.2.2 j v hj
end
section
/-! THE CONTEXT OF A WALK: the machine's, the world's, the end's -/
abbrev mv_Y : Type := MethodName × ByteArray × Nat × Option FieldType × List (Nat × Nat × Nat × Nat) × Nat × Nat
abbrev mv_Y.nm (Y : mv_Y) : MethodName := Y.1
abbrev mv_Y.cc (Y : mv_Y) : ByteArray := Y.2.1
abbrev mv_Y.nL (Y : mv_Y) : Nat := Y.2.2.1
abbrev mv_Y.ret (Y : mv_Y) : Option FieldType := Y.2.2.2.1
abbrev mv_Y.hh (Y : mv_Y) : List (Nat × Nat × Nat × Nat) := Y.2.2.2.2.1
abbrev mv_Y.fr (Y : mv_Y) : Nat := Y.2.2.2.2.2.1
abbrev mv_Y.lo (Y : mv_Y) : Nat := Y.2.2.2.2.2.2
/-- words; classes; kinds of arrays; what stands outside; the names of what is thrown; the methods; their handlers -/
abbrev mv_Gp : Type := List Cond × List vw_C × List FieldType × ((Nat → Option Nat) → (Nat → Prop) → State → Heap → Prop) × (Nat → String) × (Nat → mv_Y) × (Nat → Nat → Nat → Option (Nat × Nat))
abbrev mv_Gp.G (g : mv_Gp) : List Cond := g.1
abbrev mv_Gp.cl (g : mv_Gp) : List vw_C := g.2.1
abbrev mv_Gp.tk (g : mv_Gp) : List FieldType := g.2.2.1
abbrev mv_Gp.Ph (g : mv_Gp) : (Nat → Option Nat) → (Nat → Prop) → State → Heap → Prop := g.2.2.2.1
abbrev mv_Gp.exn (g : mv_Gp) : Nat → String := g.2.2.2.2.1
abbrev mv_Gp.M (g : mv_Gp) : Nat → mv_Y := g.2.2.2.2.2.1
abbrev mv_Gp.X (g : mv_Gp) : Nat → Nat → Nat → Option (Nat × Nat) := g.2.2.2.2.2.2
abbrev mv_Cx : Type := (Program × Launch × Env × Room × State × MethodId × Array Value × List Frame × Method × Code) × (va_G × (Nat → ClassId) × (Nat → Option Nat) × (Nat → Prop) × List Nat × Nat × Nat) × ((Array Value → State → Outcome → State → Prop) × (Nat → Prop) × mv_O × mv_H)
abbrev mv_Cx.p (x : mv_Cx) : Program := x.1.1
abbrev mv_Cx.l (x : mv_Cx) : Launch := x.1.2.1
abbrev mv_Cx.e (x : mv_Cx) : Env := x.1.2.2.1
abbrev mv_Cx.R (x : mv_Cx) : Room := x.1.2.2.2.1
abbrev mv_Cx.s (x : mv_Cx) : State := x.1.2.2.2.2.1
abbrev mv_Cx.m (x : mv_Cx) : MethodId := x.1.2.2.2.2.2.1
abbrev mv_Cx.args (x : mv_Cx) : Array Value := x.1.2.2.2.2.2.2.1
abbrev mv_Cx.below (x : mv_Cx) : List Frame := x.1.2.2.2.2.2.2.2.1
abbrev mv_Cx.meth (x : mv_Cx) : Method := x.1.2.2.2.2.2.2.2.2.1
abbrev mv_Cx.c (x : mv_Cx) : Code := x.1.2.2.2.2.2.2.2.2.2
abbrev mv_Cx.D (x : mv_Cx) : va_G := x.2.1.1
abbrev mv_Cx.cA (x : mv_Cx) : Nat → ClassId := x.2.1.2.1
abbrev mv_Cx.sd (x : mv_Cx) : Nat → Option Nat := x.2.1.2.2.1
abbrev mv_Cx.A (x : mv_Cx) : Nat → Prop := x.2.1.2.2.2.1
abbrev mv_Cx.as0 (x : mv_Cx) : List Nat := x.2.1.2.2.2.2.1
abbrev mv_Cx.c0 (x : mv_Cx) : Nat := x.2.1.2.2.2.2.2.1
abbrev mv_Cx.s0 (x : mv_Cx) : Nat := x.2.1.2.2.2.2.2.2
abbrev mv_Cx.E (x : mv_Cx) : Array Value → State → Outcome → State → Prop := x.2.2.1
abbrev mv_Cx.free (x : mv_Cx) : Nat → Prop := x.2.2.2.1
abbrev mv_Cx.o (x : mv_Cx) : mv_O := x.2.2.2.2.1
abbrev mv_Cx.hf (x : mv_Cx) : mv_H := x.2.2.2.2.2
/-- an end that returns or throws: what it says, and the frame: old cells outside 'free' are as they were, so many new ones -/
def mz_Q (E : Array Value → State → Outcome → State → Prop) (mc ms : Nat) (free : Nat → Prop) : Array Value → State → Outcome → State → Prop := fun a st o t =>
  E a st o t ∧ st.WarmedH t.vm ∧ ∃ L : List Loc, st.sameButNew ({ t with vm := st.vm } : State) L mc ms ∧ ∀ z ∈ L, free z.base
def mz_MQ (below : List Frame) (E : Array Value → State → Outcome → State → Prop) (a : Array Value) (s : State) (mc ms : Nat) (free : Nat → Prop) : State → Prop := fun t =>
  ∃ o, t.status = .running ∧ Ended t below o ∧ mz_Q E mc ms free a s o t
def mz_Met (l : Launch) (y : MethodName) (w : Cond) (rm : Room) (Pc : Array Value → State → Prop) (E : Array Value → State → Outcome → State → Prop) (mc ms : Nat) (free : Nat → Prop) : Prop :=
  MetFree l y (headSpec [w] rm) Pc (fun _ _ _ _ _ => True) (mz_Q E mc ms free)
theorem mz_ret {p : Program} {l : Launch} {e : Env} {R : Room} {s : State} {m : MethodId} {args : Array Value} {below : List Frame} {meth : Method} {c : Code} {H : Heap} {locs : List Loc} {cells slots : Nat} {E : Array Value → State → Outcome → State → Prop} {mc ms : Nat} {free : Nat → Prop} {f : JFrame}
    (k : W p l e R s m args below meth c H locs cells slots (MQ below E args s mc ms free) f) : W p l e R s m args below meth c H locs cells slots (mz_MQ below E args s mc ms free) f := by
  intro T hT X
  obtain ⟨t, a1, o, b1, b2, b3, L, ⟨-, b4, b5⟩, b6⟩ := k T hT X
  exact ⟨t, a1, o, b1, b2, b3, b4, L, b5, b6⟩
abbrev mv_Cx.Q (x : mv_Cx) : State → Prop := mz_MQ x.below x.E x.args x.s (x.hf.2.1 - x.c0) (x.hf.2.2 - x.s0) x.free
abbrev mv_W (x : mv_Cx) (H : Heap) (locs : List Loc) (k n : Nat) (f : JFrame) : Prop := W x.p x.l x.e x.R x.s x.m x.args x.below x.meth x.c H locs k n x.Q f
def mv_tys (cA : Nat → ClassId) (tk : List FieldType) : List (ClassId × FieldType) := (List.range tk.length).map (fun i => (cA i, tk.getD i .int))
theorem mv_tys_at {cA : Nat → ClassId} {tk : List FieldType} {t : Nat} {ty : FieldType} (h : tk[t]? = some ty) : (mv_tys cA tk)[t]? = some (cA t, ty) := by
  have hlt := (List.getElem?_eq_some_iff.mp h).1
  unfold mv_tys
  rw [List.getElem?_map, List.getElem?_range hlt]
  simp [List.getD_eq_getElem?_getD, h]
/-- the world, now -/
def mv_Wr (g : mv_Gp) (x : mv_Cx) (as : List Nat) (h : mv_H) (H : Heap) (locs : List Loc) : Prop :=
  as.length = h.1.length ∧ x.as0 <+: as ∧ va_P x.D g.cl (mv_w as x.sd x.cA h.1) H ∧ va_D x.A (mv_w as x.sd x.cA h.1) ∧ va_S x.A x.s.heap H locs
/-- from there the walk comes to its end -/
def mv_G (g : mv_Gp) (nL : Nat) (x : mv_Cx) (f : mv_F) (h : mv_H) : Prop :=
  x.c0 ≤ h.2.1 → x.s0 ≤ h.2.2 → h.2.1 ≤ x.hf.2.1 → h.2.2 ≤ x.hf.2.2 → ∀ (as : List Nat) (H : Heap) (locs : List Loc) (ls : Array Slot), mv_Wr g x as h H locs → mv_L as x.sd ls nL f.2.1 →
    mv_W x H locs (h.2.1 - x.c0) (h.2.2 - x.s0) (F0 x.m f.1 ls (f.2.2.map (mv_v as x.sd)))
/-- a method's contract, out of one run of the small machine -/
def mv_Pc (g : mv_Gp) (D : va_G) (cA : Nat → ClassId) (sd : Nat → Option Nat) (as : List Nat) (h : mv_H) (vs : List Value) (sz : Nat) : Array Value → State → Prop :=
  va_Pc (vs.map (mv_v as sd)) (fun U => U.heap.size = sz ∧ as.length = h.1.length ∧ (∀ w ∈ g.G, w.before #[] U = true) ∧ va_K D g.cl (mv_tys cA g.tk) U ∧ g.Ph sd (va_A (mv_w as sd cA h.1) sz) U U.heap ∧ va_P D g.cl (mv_w as sd cA h.1) U.heap ∧ va_D (fun _ => True) (mv_w as sd cA h.1))
def mv_Nd (g : mv_Gp) (D : va_G) (cA : Nat → ClassId) (sd : Nat → Option Nat) (A : Nat → Prop) (as : List Nat) (h2 : mv_H) (st t : State) (as2 : List Nat) : Prop :=
  as <+: as2 ∧ as2.length = h2.1.length ∧ va_P D g.cl (mv_w as2 sd cA h2.1) t.heap ∧ va_D A (mv_w as2 sd cA h2.1) ∧ va_F A st t
/-- the end of a run with the outcome o and the heap h2 -/
def mv_En (g : mv_Gp) (D : va_G) (cA : Nat → ClassId) (sd : Nat → Option Nat) (A : Nat → Prop) (as : List Nat) (o : mv_O) (h2 : mv_H) : Array Value → State → Outcome → State → Prop := fun _ st oc t =>
  (∃ (v : Option Value) (as2 : List Nat), o = .inl v ∧ oc = .returned (v.map (mv_v as2 sd)) ∧ mv_Nd g D cA sd A as h2 st t as2) ∨
  (∃ (k : Nat) (as2 : List Nat) (q : Nat) (ce : Cell), o = .inr k ∧ oc = .threw q ∧ t.heap[q]? = some ce ∧ ce.vm = .none ∧ st.vm.findClass (g.exn k) = some ce.cls ∧ mv_Nd g D cA sd A as h2 st t as2)
def mv_code (Y : mv_Y) : Cond := match Y.hh with
  | [] => .code Y.nm Y.cc Y.nL Y.ret
  | _ :: _ => .codeWith Y.nm Y.cc Y.nL Y.ret Y.hh
abbrev mv_rm (Y : mv_Y) (h h2 : mv_H) : Room := { frames := Y.fr, cells := h2.2.1 - h.2.1, slots := h2.2.2 - h.2.2, locals := Y.lo }
def mv_Mt (g : mv_Gp) (l : Launch) (z : Nat) (vs : List Value) (h : mv_H) (o : mv_O) (h2 : mv_H) : Prop :=
  ∀ (D : va_G) (cA : Nat → ClassId) (sd : Nat → Option Nat) (as : List Nat) (sz : Nat), mz_Met l (g.M z).nm (mv_code (g.M z)) (mv_rm (g.M z) h h2) (mv_Pc g D cA sd as h vs sz)
    (mv_En g D cA sd (va_A (mv_w as sd cA h.1) sz) as o h2) (h2.2.1 - h.2.1) (h2.2.2 - h.2.2) (va_A (mv_w as sd cA h.1) sz)
def mv_Cq (g : mv_Gp) (y : Nat) (x : mv_Cx) (pc : Nat) (z : Nat) (vs : List Value) (f' : mv_F) (h' : mv_H) : Prop :=
  ∃ (o2 : mv_O) (h2 : mv_H), h'.2.1 ≤ h2.2.1 ∧ h'.2.2 ≤ h2.2.2 ∧ h2.2.1 ≤ x.hf.2.1 ∧ h2.2.2 ≤ x.hf.2.2 ∧ mv_Mt g x.l z vs h' o2 h2 ∧
    (∀ v, o2 = .inl v → mv_ok h' h2 f' = true ∧ mv_G g (g.M y).nL x (f'.1, f'.2.1, v.toList ++ f'.2.2) h2) ∧
    (∀ k, o2 = .inr k → (g.X y pc k = none ∧ x.o = .inr k ∧ x.hf = h2) ∨ ∃ (pc' i : Nat), g.X y pc k = some (pc', i) ∧ mv_ok h' h2 f' = true ∧ mv_G g (g.M y).nL x (pc', (mv_cl f'.2.1 i).set i none, []) h2)
def mv_GR (g : mv_Gp) (y : Nat) (x : mv_Cx) (pc : Nat) : mv_R → Prop
  | .inl (f', h') => h'.2.1 ≤ x.hf.2.1 ∧ h'.2.2 ≤ x.hf.2.2 ∧ mv_G g (g.M y).nL x f' h'
  | .inr (.inl (o, h')) => x.o = o ∧ x.hf = h'
  | .inr (.inr (z, vs, f', h')) => mv_Cq g y x pc z vs f' h'
def mv_Xm (g : mv_Gp) (y : Nat) (x : mv_Cx) : Prop :=
  x.p.tables.exec = Jvm.exec ∧ x.c.code = (g.M y).cc ∧ x.c.maxLocals = (g.M y).nL ∧ x.s.vm.findClass (g.M y).nm.cls = some x.m.cls ∧ x.meth.locks = false ∧ x.meth.sig.returnType = (g.M y).ret ∧ x.meth.name = (g.M y).nm.name ∧
    x.c.exceptionTable.toList.map (fun h => (h.startPc, h.endPc, h.handlerPc, h.catchType)) = (g.M y).hh ∧ x.l.stackTraces = false ∧ ∀ w ∈ g.G, w.before x.args x.s = true
def mv_Xw (g : mv_Gp) (x : mv_Cx) : Prop := va_K x.D g.cl (mv_tys x.cA g.tk) x.s ∧ g.Ph x.sd x.A x.s x.s.heap ∧ (∀ q, x.s.heap.size ≤ q → x.A q) ∧ ∀ q, x.A q → x.free q
def mv_Xe (g : mv_Gp) (y : Nat) (x : mv_Cx) : Prop := x.hf.2.1 - x.c0 ≤ x.R.cells ∧ x.hf.2.2 - x.s0 ≤ x.R.slots ∧ (g.M y).fr ≤ x.R.frames ∧ (g.M y).lo ≤ x.R.locals ∧
    (∀ (v : Option Value) (as : List Nat) (t : State), x.o = .inl v → mv_Nd g x.D x.cA x.sd x.A x.as0 x.hf x.s t as → x.s.vm.Alike t.vm → x.E x.args x.s (.returned (v.map (mv_v as x.sd))) t) ∧
    ∀ (k : Nat) (as : List Nat) (t : State) (q : Nat) (ce : Cell), x.o = .inr k → t.heap[q]? = some ce → ce.vm = .none → x.s.vm.findClass (g.exn k) = some ce.cls → mv_Nd g x.D x.cA x.sd x.A x.as0 x.hf x.s t as → x.s.vm.Alike t.vm → x.E x.args x.s (.threw q) t
def mv_X (g : mv_Gp) (y : Nat) (x : mv_Cx) : Prop := mv_Xm g y x ∧ mv_Xw g x ∧ mv_Xe g y x
/-- a step is sound -/
def mv_Snd (g : mv_Gp) (y pc : Nat) (st : mv_S) : Prop := ∀ (x : mv_Cx), mv_X g y x → ∀ (L : List (Option Value)) (stk : List Value) (h : mv_H) (r : mv_R), st (pc, L, stk) h = some r → mv_GR g y x pc r → mv_G g (g.M y).nL x (pc, L, stk) h
end
section
/-! THE STEPS ARE SOUND, instruction by instruction, by the kit's rows -/
def mv_row (cc : ByteArray) (pc pc' : Nat) (st st' : List Value) : Prop :=
  ∀ {p : Program} {l : Launch} {e : Env} {R : Room} {s : State} {m : MethodId} {args : Array Value} {below : List Frame} {meth : Method} {c : Code} {H : Heap} {locs : List Loc} {cells slots : Nat} {Q : State → Prop} {ls : Array Slot}, p.tables.exec = Jvm.exec → c.code = cc → W p l e R s m args below meth c H locs cells slots Q (F0 m pc' ls st') → W p l e R s m args below meth c H locs cells slots Q (F0 m pc ls st)
theorem mv_pure {g : mv_Gp} {y pc len : Nat} {t : List Value → Option (List Value)} (hrow : ∀ (as : List Nat) (sd : Nat → Option Nat) (st st' : List Value), t st = some st' → mv_row (g.M y).cc pc (pc + len) (st.map (mv_v as sd)) (st'.map (mv_v as sd))) : mv_Snd g y pc (mi_pure len t) := by
  intro x hX L stk h r e hr c1 c2 c3 c4 as H locs ls hw hl
  unfold mi_pure at e
  dsimp only at e
  cases ht : t stk with
  | none => rw [ht] at e; cases e
  | some st' =>
    rw [ht] at e
    cases e
    exact hrow as x.sd stk st' ht hX.1.1 hX.1.2.1 (hr.2.2 c1 c2 hr.1 hr.2.1 as H locs ls hw hl)
theorem mn_iconst {g : mv_Gp} {y pc : Nat} {n : Int} {v : Int32} (hd : decode (g.M y).cc pc = .ok (.iconst n, 1)) (hv : Int32.ofInt n = v) : mv_Snd g y pc (mi_pure 1 (mo_push (.int v))) := mv_pure fun _ _ st st' e => by
  cases e
  intro p l e R s m args below meth c H locs cells slots Q ls hx hb k
  exact lv_iconst hx hb hd hv k
theorem mn_bipush {g : mv_Gp} {y pc : Nat} {n : Int} {v : Int32} (hd : decode (g.M y).cc pc = .ok (.bipush n, 2)) (hv : (Int8.ofInt n).toInt32 = v) : mv_Snd g y pc (mi_pure 2 (mo_push (.int v))) := mv_pure fun _ _ st st' e => by
  cases e
  intro p l e R s m args below meth c H locs cells slots Q ls hx hb k
  exact lv_bipush hx hb hd hv k
theorem mn_sipush {g : mv_Gp} {y pc : Nat} {n : Int} {v : Int32} (hd : decode (g.M y).cc pc = .ok (.sipush n, 3)) (hv : (Int16.ofInt n).toInt32 = v) : mv_Snd g y pc (mi_pure 3 (mo_push (.int v))) := mv_pure fun _ _ st st' e => by
  cases e
  intro p l e R s m args below meth c H locs cells slots Q ls hx hb k
  exact lv_sipush hx hb hd hv k
theorem mn_lconst {g : mv_Gp} {y pc : Nat} {n : Fin 2} {v : Int64} (hd : decode (g.M y).cc pc = .ok (.lconst n, 1)) (hv : Int64.ofNat (n : Nat) = v) : mv_Snd g y pc (mi_pure 1 (mo_push (.long v))) := mv_pure fun _ _ st st' e => by
  cases e
  intro p l e R s m args below meth c H locs cells slots Q ls hx hb k
  exact lv_lconst hx hb hd hv k
theorem mn_iadd {g : mv_Gp} {y pc : Nat} (hd : decode (g.M y).cc pc = .ok (.iadd, 1)) : mv_Snd g y pc (mi_pure 1 (mo_ii (fun x y => x + y))) := mv_pure fun _ _ st st' e => by
  unfold mo_ii at e
  split at e
  · cases e
    intro p l e R s m args below meth c H locs cells slots Q ls hx hb k
    exact lv_iadd hx hb hd k
  · cases e
theorem mn_isub {g : mv_Gp} {y pc : Nat} (hd : decode (g.M y).cc pc = .ok (.isub, 1)) : mv_Snd g y pc (mi_pure 1 (mo_ii (fun x y => x - y))) := mv_pure fun _ _ st st' e => by
  unfold mo_ii at e
  split at e
  · cases e
    intro p l e R s m args below meth c H locs cells slots Q ls hx hb k
    exact lv_isub hx hb hd k
  · cases e
theorem mn_imul {g : mv_Gp} {y pc : Nat} (hd : decode (g.M y).cc pc = .ok (.imul, 1)) : mv_Snd g y pc (mi_pure 1 (mo_ii (fun x y => x * y))) := mv_pure fun _ _ st st' e => by
  unfold mo_ii at e
  split at e
  · cases e
    intro p l e R s m args below meth c H locs cells slots Q ls hx hb k
    exact lv_imul hx hb hd k
  · cases e
theorem mn_iand {g : mv_Gp} {y pc : Nat} (hd : decode (g.M y).cc pc = .ok (.iand, 1)) : mv_Snd g y pc (mi_pure 1 (mo_ii (fun x y => x &&& y))) := mv_pure fun _ _ st st' e => by
  unfold mo_ii at e
  split at e
  · cases e
    intro p l e R s m args below meth c H locs cells slots Q ls hx hb k
    exact lv_iand hx hb hd k
  · cases e
theorem mn_ior {g : mv_Gp} {y pc : Nat} (hd : decode (g.M y).cc pc = .ok (.ior, 1)) : mv_Snd g y pc (mi_pure 1 (mo_ii (fun x y => x ||| y))) := mv_pure fun _ _ st st' e => by
  unfold mo_ii at e
  split at e
  · cases e
    intro p l e R s m args below meth c H locs cells slots Q ls hx hb k
    exact lv_ior hx hb hd k
  · cases e
theorem mn_ixor {g : mv_Gp} {y pc : Nat} (hd : decode (g.M y).cc pc = .ok (.ixor, 1)) : mv_Snd g y pc (mi_pure 1 (mo_ii (fun x y => x ^^^ y))) := mv_pure fun _ _ st st' e => by
  unfold mo_ii at e
  split at e
  · cases e
    intro p l e R s m args below meth c H locs cells slots Q ls hx hb k
    exact lv_ixor hx hb hd k
  · cases e
theorem mn_ishl {g : mv_Gp} {y pc : Nat} (hd : decode (g.M y).cc pc = .ok (.ishl, 1)) : mv_Snd g y pc (mi_pure 1 (mo_ii (fun x y => x <<< (y &&& 31)))) := mv_pure fun _ _ st st' e => by
  unfold mo_ii at e
  split at e
  · cases e
    intro p l e R s m args below meth c H locs cells slots Q ls hx hb k
    exact lv_ishl hx hb hd k
  · cases e
theorem mn_ishr {g : mv_Gp} {y pc : Nat} (hd : decode (g.M y).cc pc = .ok (.ishr, 1)) : mv_Snd g y pc (mi_pure 1 (mo_ii (fun x y => x >>> (y &&& 31)))) := mv_pure fun _ _ st st' e => by
  unfold mo_ii at e
  split at e
  · cases e
    intro p l e R s m args below meth c H locs cells slots Q ls hx hb k
    exact lv_ishr hx hb hd k
  · cases e
theorem mn_iushr {g : mv_Gp} {y pc : Nat} (hd : decode (g.M y).cc pc = .ok (.iushr, 1)) : mv_Snd g y pc (mi_pure 1 (mo_ii (fun x y => (x.toUInt32 >>> (y.toUInt32 &&& Int32.toUInt32 31)).toInt32))) := mv_pure fun _ _ st st' e => by
  unfold mo_ii at e
  split at e
  · cases e
    intro p l e R s m args below meth c H locs cells slots Q ls hx hb k
    exact lv_iushr hx hb hd rfl k
  · cases e
theorem mn_ladd {g : mv_Gp} {y pc : Nat} (hd : decode (g.M y).cc pc = .ok (.ladd, 1)) : mv_Snd g y pc (mi_pure 1 (mo_ll (fun x y => x + y))) := mv_pure fun _ _ st st' e => by
  unfold mo_ll at e
  split at e
  · cases e
    intro p l e R s m args below meth c H locs cells slots Q ls hx hb k
    exact lv_ladd hx hb hd k
  · cases e
theorem mn_lsub {g : mv_Gp} {y pc : Nat} (hd : decode (g.M y).cc pc = .ok (.lsub, 1)) : mv_Snd g y pc (mi_pure 1 (mo_ll (fun x y => x - y))) := mv_pure fun _ _ st st' e => by
  unfold mo_ll at e
  split at e
  · cases e
    intro p l e R s m args below meth c H locs cells slots Q ls hx hb k
    exact lv_lsub hx hb hd k
  · cases e
theorem mn_lmul {g : mv_Gp} {y pc : Nat} (hd : decode (g.M y).cc pc = .ok (.lmul, 1)) : mv_Snd g y pc (mi_pure 1 (mo_ll (fun x y => x * y))) := mv_pure fun _ _ st st' e => by
  unfold mo_ll at e
  split at e
  · cases e
    intro p l e R s m args below meth c H locs cells slots Q ls hx hb k
    exact lv_lmul hx hb hd k
  · cases e
theorem mn_land {g : mv_Gp} {y pc : Nat} (hd : decode (g.M y).cc pc = .ok (.land, 1)) : mv_Snd g y pc (mi_pure 1 (mo_ll (fun x y => x &&& y))) := mv_pure fun _ _ st st' e => by
  unfold mo_ll at e
  split at e
  · cases e
    intro p l e R s m args below meth c H locs cells slots Q ls hx hb k
    exact lv_land hx hb hd k
  · cases e
theorem mn_lor {g : mv_Gp} {y pc : Nat} (hd : decode (g.M y).cc pc = .ok (.lor, 1)) : mv_Snd g y pc (mi_pure 1 (mo_ll (fun x y => x ||| y))) := mv_pure fun _ _ st st' e => by
  unfold mo_ll at e
  split at e
  · cases e
    intro p l e R s m args below meth c H locs cells slots Q ls hx hb k
    exact lv_lor hx hb hd k
  · cases e
theorem mn_lxor {g : mv_Gp} {y pc : Nat} (hd : decode (g.M y).cc pc = .ok (.lxor, 1)) : mv_Snd g y pc (mi_pure 1 (mo_ll (fun x y => x ^^^ y))) := mv_pure fun _ _ st st' e => by
  unfold mo_ll at e
  split at e
  · cases e
    intro p l e R s m args below meth c H locs cells slots Q ls hx hb k
    exact lv_lxor hx hb hd k
  · cases e
theorem mn_lushr {g : mv_Gp} {y pc : Nat} (hd : decode (g.M y).cc pc = .ok (.lushr, 1)) : mv_Snd g y pc (mi_pure 1 (mo_li (fun x y => (x.toUInt64 >>> (y.toInt64.toUInt64 &&& Int64.toUInt64 63)).toInt64))) := mv_pure fun _ _ st st' e => by
  unfold mo_li at e
  split at e
  · cases e
    intro p l e R s m args below meth c H locs cells slots Q ls hx hb k
    exact lv_lushr hx hb hd rfl k
  · cases e
theorem mn_lshl {g : mv_Gp} {y pc : Nat} (hd : decode (g.M y).cc pc = .ok (.lshl, 1)) : mv_Snd g y pc (mi_pure 1 (mo_li (fun x y => x <<< (y.toInt64 &&& 63)))) := mv_pure fun _ _ st st' e => by
  unfold mo_li at e
  split at e
  · cases e
    intro p l e R s m args below meth c H locs cells slots Q ls hx hb k
    exact lv_lshl hx hb hd rfl k
  · cases e
theorem mn_lshr {g : mv_Gp} {y pc : Nat} (hd : decode (g.M y).cc pc = .ok (.lshr, 1)) : mv_Snd g y pc (mi_pure 1 (mo_li (fun x y => x >>> (y.toInt64 &&& 63)))) := mv_pure fun _ _ st st' e => by
  unfold mo_li at e
  split at e
  · cases e
    intro p l e R s m args below meth c H locs cells slots Q ls hx hb k
    exact lv_lshr hx hb hd rfl k
  · cases e
theorem mn_lcmp {g : mv_Gp} {y pc : Nat} (hd : decode (g.M y).cc pc = .ok (.lcmp, 1)) : mv_Snd g y pc (mi_pure 1 (mo_lli lg_cmp)) := mv_pure fun _ _ st st' e => by
  unfold mo_lli at e
  split at e
  · cases e
    intro p l e R s m args below meth c H locs cells slots Q ls hx hb k
    exact W.lcmp hx hb hd k
  · cases e
theorem mn_ineg {g : mv_Gp} {y pc : Nat} (hd : decode (g.M y).cc pc = .ok (.ineg, 1)) : mv_Snd g y pc (mi_pure 1 (mo_i (fun x => -x))) := mv_pure fun _ _ st st' e => by
  unfold mo_i at e
  split at e
  · cases e
    intro p l e R s m args below meth c H locs cells slots Q ls hx hb k
    exact lv_ineg hx hb hd k
  · cases e
theorem mn_i2l {g : mv_Gp} {y pc : Nat} (hd : decode (g.M y).cc pc = .ok (.i2l, 1)) : mv_Snd g y pc (mi_pure 1 mo_i2l) := mv_pure fun _ _ st st' e => by
  unfold mo_i2l at e
  split at e
  · cases e
    intro p l e R s m args below meth c H locs cells slots Q ls hx hb k
    exact lv_i2l hx hb hd rfl k
  · cases e
theorem mn_l2i {g : mv_Gp} {y pc : Nat} (hd : decode (g.M y).cc pc = .ok (.l2i, 1)) : mv_Snd g y pc (mi_pure 1 mo_l2i) := mv_pure fun _ _ st st' e => by
  unfold mo_l2i at e
  split at e
  · cases e
    intro p l e R s m args below meth c H locs cells slots Q ls hx hb k
    exact lv_l2i hx hb hd rfl k
  · cases e
theorem mn_i2c {g : mv_Gp} {y pc : Nat} {op : Int32 → Int32} (hd : decode (g.M y).cc pc = .ok (.i2c, 1)) (ho : op = fun x => (x.toUInt32 % 65536).toInt32) : mv_Snd g y pc (mi_pure 1 (mo_i op)) := mv_pure fun _ _ st st' e => by
  unfold mo_i at e
  split at e
  · cases e
    intro p l e R s m args below meth c H locs cells slots Q ls hx hb k
    subst ho
    exact lv_i2c hx hb hd rfl k
  · cases e
theorem mn_dup {g : mv_Gp} {y pc : Nat} (hd : decode (g.M y).cc pc = .ok (.dup, 1)) : mv_Snd g y pc (mi_pure 1 mo_dup) := mv_pure fun _ _ st st' e => by
  unfold mo_dup at e
  split at e
  · cases e
    intro p l e R s m args below meth c H locs cells slots Q ls hx hb k
    exact lv_dup hx hb hd rfl k
  · cases e
    intro p l e R s m args below meth c H locs cells slots Q ls hx hb k
    exact lv_dup hx hb hd rfl k
  · cases e
theorem mn_dup_x1 {g : mv_Gp} {y pc : Nat} (hd : decode (g.M y).cc pc = .ok (.dup_x1, 1)) : mv_Snd g y pc (mi_pure 1 mo_dup_x1) := mv_pure fun _ _ st st' e => by
  unfold mo_dup_x1 at e
  split at e
  · cases e
    intro p l e R s m args below meth c H locs cells slots Q ls hx hb k
    exact lv_dup_x1 hx hb hd rfl rfl k
  · cases e
    intro p l e R s m args below meth c H locs cells slots Q ls hx hb k
    exact lv_dup_x1 hx hb hd rfl rfl k
  · cases e
theorem mn_dup2 {g : mv_Gp} {y pc : Nat} (hd : decode (g.M y).cc pc = .ok (.dup2, 1)) : mv_Snd g y pc (mi_pure 1 mo_dup2) := mv_pure fun _ _ st st' e => by
  unfold mo_dup2 at e
  split at e
  · cases e
    intro p l e R s m args below meth c H locs cells slots Q ls hx hb k
    exact lv_dup2_11 hx hb hd rfl rfl k
  · cases e
theorem mn_pop {g : mv_Gp} {y pc : Nat} (hd : decode (g.M y).cc pc = .ok (.pop, 1)) : mv_Snd g y pc (mi_pure 1 mo_pop) := mv_pure fun _ _ st st' e => by
  unfold mo_pop at e
  split at e
  · cases e
    intro p l e R s m args below meth c H locs cells slots Q ls hx hb k
    exact lv_pop hx hb hd rfl k
  · cases e
    intro p l e R s m args below meth c H locs cells slots Q ls hx hb k
    exact lv_pop hx hb hd rfl k
  · cases e
theorem mn_iload_n {g : mv_Gp} {y pc i : Nat} {k : Fin 4} (hd : decode (g.M y).cc pc = .ok (.iload_n k, 1)) (hi : (k : Nat) = i) : mv_Snd g y pc (mi_iload 1 i) := by
  intro x hX L stk h r e hr c1 c2 c3 c4 as H locs ls hw hl
  unfold mi_iload at e
  dsimp only at e
  split at e
  · rename_i v hv
    cases e
    exact lv_iload_n hX.1.1 hX.1.2.1 hd hi (hl.2.2.2 i _ hv) (hr.2.2 c1 c2 hr.1 hr.2.1 as H locs ls hw hl)
  · cases e
theorem mn_iload {g : mv_Gp} {y pc i : Nat}  (hd : decode (g.M y).cc pc = .ok (.iload i, 2)) : mv_Snd g y pc (mi_iload 2 i) := by
  intro x hX L stk h r e hr c1 c2 c3 c4 as H locs ls hw hl
  unfold mi_iload at e
  dsimp only at e
  split at e
  · rename_i v hv
    cases e
    exact lv_iload hX.1.1 hX.1.2.1 hd (hl.2.2.2 i _ hv) (hr.2.2 c1 c2 hr.1 hr.2.1 as H locs ls hw hl)
  · cases e
theorem mn_lload_n {g : mv_Gp} {y pc i : Nat} {k : Fin 4} (hd : decode (g.M y).cc pc = .ok (.lload_n k, 1)) (hi : (k : Nat) = i) : mv_Snd g y pc (mi_lload 1 i) := by
  intro x hX L stk h r e hr c1 c2 c3 c4 as H locs ls hw hl
  unfold mi_lload at e
  dsimp only at e
  split at e
  · rename_i v hv
    cases e
    exact lv_lload_n hX.1.1 hX.1.2.1 hd hi (hl.2.2.2 i _ hv) (hr.2.2 c1 c2 hr.1 hr.2.1 as H locs ls hw hl)
  · cases e
theorem mn_lload {g : mv_Gp} {y pc i : Nat}  (hd : decode (g.M y).cc pc = .ok (.lload i, 2)) : mv_Snd g y pc (mi_lload 2 i) := by
  intro x hX L stk h r e hr c1 c2 c3 c4 as H locs ls hw hl
  unfold mi_lload at e
  dsimp only at e
  split at e
  · rename_i v hv
    cases e
    exact lv_lload hX.1.1 hX.1.2.1 hd (hl.2.2.2 i _ hv) (hr.2.2 c1 c2 hr.1 hr.2.1 as H locs ls hw hl)
  · cases e
theorem mn_aload_n {g : mv_Gp} {y pc i : Nat} {k : Fin 4} (hd : decode (g.M y).cc pc = .ok (.aload_n k, 1)) (hi : (k : Nat) = i) : mv_Snd g y pc (mi_aload 1 i) := by
  intro x hX L stk h r e hr c1 c2 c3 c4 as H locs ls hw hl
  unfold mi_aload at e
  dsimp only at e
  split at e
  · rename_i v hv
    cases e
    exact lv_aload_n hX.1.1 hX.1.2.1 hd hi (hl.2.2.2 i _ hv) (hr.2.2 c1 c2 hr.1 hr.2.1 as H locs ls hw hl)
  · rename_i v hv
    cases e
    have hz := hl.2.2.2 i _ hv
    have kz := hr.2.2 c1 c2 hr.1 hr.2.1 as H locs ls hw hl
    simp only [mv_v, List.map_cons] at hz kz
    cases hs : x.sd v with
    | none =>
      rw [hs] at hz kz
      exact lv_aload_nN hX.1.1 hX.1.2.1 hd hi hz kz
    | some q =>
      rw [hs] at hz kz
      exact lv_aload_n hX.1.1 hX.1.2.1 hd hi hz kz
  · cases e
theorem mn_aload {g : mv_Gp} {y pc i : Nat}  (hd : decode (g.M y).cc pc = .ok (.aload i, 2)) : mv_Snd g y pc (mi_aload 2 i) := by
  intro x hX L stk h r e hr c1 c2 c3 c4 as H locs ls hw hl
  unfold mi_aload at e
  dsimp only at e
  split at e
  · rename_i v hv
    cases e
    exact lv_aload hX.1.1 hX.1.2.1 hd (hl.2.2.2 i _ hv) (hr.2.2 c1 c2 hr.1 hr.2.1 as H locs ls hw hl)
  · rename_i v hv
    cases e
    have hz := hl.2.2.2 i _ hv
    have kz := hr.2.2 c1 c2 hr.1 hr.2.1 as H locs ls hw hl
    simp only [mv_v, List.map_cons] at hz kz
    cases hs : x.sd v with
    | none =>
      rw [hs] at hz kz
      exact lv_aloadN hX.1.1 hX.1.2.1 hd hz kz
    | some q =>
      rw [hs] at hz kz
      exact lv_aload hX.1.1 hX.1.2.1 hd hz kz
  · cases e
theorem mn_istore_n {g : mv_Gp} {y pc i : Nat} {k : Fin 4} (hd : decode (g.M y).cc pc = .ok (.istore_n k, 1)) (hi : (k : Nat) = i) (hn : i < (g.M y).nL) : mv_Snd g y pc (mi_istore 1 i) := by
  intro x hX L stk h r e hr c1 c2 c3 c4 as H locs ls hw hl
  unfold mi_istore at e
  dsimp only at e
  split at e
  · rename_i v st
    cases e
    exact lv_istore_n hX.1.1 hX.1.2.1 hd hi hl.has hn rfl (fun ls' h' => hr.2.2 c1 c2 hr.1 hr.2.1 as H locs ls' hw (mv_L.st1 (v := .int v) hl.1 h'))
  · cases e
theorem mn_istore {g : mv_Gp} {y pc i : Nat}  (hd : decode (g.M y).cc pc = .ok (.istore i, 2)) (hn : i < (g.M y).nL) : mv_Snd g y pc (mi_istore 2 i) := by
  intro x hX L stk h r e hr c1 c2 c3 c4 as H locs ls hw hl
  unfold mi_istore at e
  dsimp only at e
  split at e
  · rename_i v st
    cases e
    exact lv_istore hX.1.1 hX.1.2.1 hd hl.has hn rfl (fun ls' h' => hr.2.2 c1 c2 hr.1 hr.2.1 as H locs ls' hw (mv_L.st1 (v := .int v) hl.1 h'))
  · cases e
theorem mn_lstore_n {g : mv_Gp} {y pc i : Nat} {k : Fin 4} (hd : decode (g.M y).cc pc = .ok (.lstore_n k, 1)) (hi : (k : Nat) = i) (hn : i + 1 < (g.M y).nL) : mv_Snd g y pc (mi_lstore 1 i) := by
  intro x hX L stk h r e hr c1 c2 c3 c4 as H locs ls hw hl
  unfold mi_lstore at e
  dsimp only at e
  split at e
  · rename_i v st
    cases e
    exact lv_lstore_n hX.1.1 hX.1.2.1 hd hi hl.has hn rfl (fun ls' h' => hr.2.2 c1 c2 hr.1 hr.2.1 as H locs ls' hw (mv_L.st2 (v := .long v) hl.1 h'))
  · cases e
theorem mn_lstore {g : mv_Gp} {y pc i : Nat}  (hd : decode (g.M y).cc pc = .ok (.lstore i, 2)) (hn : i + 1 < (g.M y).nL) : mv_Snd g y pc (mi_lstore 2 i) := by
  intro x hX L stk h r e hr c1 c2 c3 c4 as H locs ls hw hl
  unfold mi_lstore at e
  dsimp only at e
  split at e
  · rename_i v st
    cases e
    exact lv_lstore hX.1.1 hX.1.2.1 hd hl.has hn rfl (fun ls' h' => hr.2.2 c1 c2 hr.1 hr.2.1 as H locs ls' hw (mv_L.st2 (v := .long v) hl.1 h'))
  · cases e
theorem mn_astore_n {g : mv_Gp} {y pc i : Nat} {k : Fin 4} (hd : decode (g.M y).cc pc = .ok (.astore_n k, 1)) (hi : (k : Nat) = i) (hn : i < (g.M y).nL) : mv_Snd g y pc (mi_astore 1 i) := by
  intro x hX L stk h r e hr c1 c2 c3 c4 as H locs ls hw hl
  unfold mi_astore at e
  dsimp only at e
  split at e
  · rename_i v st
    cases e
    exact lv_astore_n hX.1.1 hX.1.2.1 hd hi hl.has hn rfl (fun ls' h' => hr.2.2 c1 c2 hr.1 hr.2.1 as H locs ls' hw (mv_L.st1 (v := .ref v) hl.1 h'))
  · rename_i v st
    cases e
    simp only [List.map_cons, mv_v]
    cases hs : x.sd v with
    | none => exact lv_astore_nN hX.1.1 hX.1.2.1 hd hi hl.has hn rfl (fun ls' h' => hr.2.2 c1 c2 hr.1 hr.2.1 as H locs ls' hw (mv_L.st1 (v := .retAddr v) hl.1 (by simp only [mv_v, hs]; exact h')))
    | some q => exact lv_astore_n hX.1.1 hX.1.2.1 hd hi hl.has hn rfl (fun ls' h' => hr.2.2 c1 c2 hr.1 hr.2.1 as H locs ls' hw (mv_L.st1 (v := .retAddr v) hl.1 (by simp only [mv_v, hs]; exact h')))
  · cases e
theorem mn_astore {g : mv_Gp} {y pc i : Nat}  (hd : decode (g.M y).cc pc = .ok (.astore i, 2)) (hn : i < (g.M y).nL) : mv_Snd g y pc (mi_astore 2 i) := by
  intro x hX L stk h r e hr c1 c2 c3 c4 as H locs ls hw hl
  unfold mi_astore at e
  dsimp only at e
  split at e
  · rename_i v st
    cases e
    exact lv_astore hX.1.1 hX.1.2.1 hd hl.has hn rfl (fun ls' h' => hr.2.2 c1 c2 hr.1 hr.2.1 as H locs ls' hw (mv_L.st1 (v := .ref v) hl.1 h'))
  · rename_i v st
    cases e
    simp only [List.map_cons, mv_v]
    cases hs : x.sd v with
    | none => exact lv_astoreN hX.1.1 hX.1.2.1 hd hl.has hn rfl (fun ls' h' => hr.2.2 c1 c2 hr.1 hr.2.1 as H locs ls' hw (mv_L.st1 (v := .retAddr v) hl.1 (by simp only [mv_v, hs]; exact h')))
    | some q => exact lv_astore hX.1.1 hX.1.2.1 hd hl.has hn rfl (fun ls' h' => hr.2.2 c1 c2 hr.1 hr.2.1 as H locs ls' hw (mv_L.st1 (v := .retAddr v) hl.1 (by simp only [mv_v, hs]; exact h')))
  · cases e
theorem mn_iinc {g : mv_Gp} {y pc i : Nat} {n : Int} {z : Int32} (hd : decode (g.M y).cc pc = .ok (.iinc i n, 3)) (hz : Int32.ofInt n = z) (hn : i < (g.M y).nL) : mv_Snd g y pc (mi_iinc i z) := by
  intro x hX L stk h r e hr c1 c2 c3 c4 as H locs ls hw hl
  unfold mi_iinc at e
  dsimp only at e
  split at e
  · rename_i v hv
    cases e
    obtain ⟨k, hk⟩ := List.getElem?_of_mem (mv_al_mem (as := as) (sd := x.sd) hv)
    subst hz
    exact lv_iinc hX.1.1 hX.1.2.1 hd hl.has hk rfl hn rfl (fun ls' h' => hr.2.2 c1 c2 hr.1 hr.2.1 as H locs ls' hw (mv_L.st1 (v := .int (v + Int32.ofInt n)) hl.1 h'))
  · cases e
theorem mn_goto {g : mv_Gp} {y pc tgt : Nat} {off : Int} (hd : decode (g.M y).cc pc = .ok (.goto off, 3)) (ht : (pc : Int) + off = (tgt : Int)) : mv_Snd g y pc (mi_goto tgt) := by
  intro x hX L stk h r e hr c1 c2 c3 c4 as H locs ls hw hl
  cases e
  exact lv_goto hX.1.1 hX.1.2.1 hd ht (hr.2.2 c1 c2 hr.1 hr.2.1 as H locs ls hw hl)
theorem mn_if_eq {g : mv_Gp} {y pc tgt : Nat} {off : Int} (hd : decode (g.M y).cc pc = .ok (.ifCond .eq off, 3)) (ht : (pc : Int) + off = (tgt : Int)) : mv_Snd g y pc (mi_if (fun x : Int32 => x = 0) tgt) := by
  intro x hX L stk h r e hr c1 c2 c3 c4 as H locs ls hw hl
  unfold mi_if at e
  dsimp only at e
  split at e
  · rename_i v st
    cases e
    obtain ⟨r1, r2, r3⟩ := hr
    exact lv_if_eq hX.1.1 hX.1.2.1 hd ht (fun hb => by rw [if_pos hb] at r3; exact r3 c1 c2 r1 r2 as H locs ls hw hl) (fun hb => by rw [if_neg hb] at r3; exact r3 c1 c2 r1 r2 as H locs ls hw hl)
  · cases e
theorem mn_if_ne {g : mv_Gp} {y pc tgt : Nat} {off : Int} (hd : decode (g.M y).cc pc = .ok (.ifCond .ne off, 3)) (ht : (pc : Int) + off = (tgt : Int)) : mv_Snd g y pc (mi_if (fun x : Int32 => ¬ x = 0) tgt) := by
  intro x hX L stk h r e hr c1 c2 c3 c4 as H locs ls hw hl
  unfold mi_if at e
  dsimp only at e
  split at e
  · rename_i v st
    cases e
    obtain ⟨r1, r2, r3⟩ := hr
    exact lv_if_ne hX.1.1 hX.1.2.1 hd ht (fun hb => by rw [if_pos hb] at r3; exact r3 c1 c2 r1 r2 as H locs ls hw hl) (fun hb => by rw [if_neg (not_not_intro hb)] at r3; exact r3 c1 c2 r1 r2 as H locs ls hw hl)
  · cases e
theorem mn_if_lt {g : mv_Gp} {y pc tgt : Nat} {off : Int} (hd : decode (g.M y).cc pc = .ok (.ifCond .lt off, 3)) (ht : (pc : Int) + off = (tgt : Int)) : mv_Snd g y pc (mi_if (fun x : Int32 => x < 0) tgt) := by
  intro x hX L stk h r e hr c1 c2 c3 c4 as H locs ls hw hl
  unfold mi_if at e
  dsimp only at e
  split at e
  · rename_i v st
    cases e
    obtain ⟨r1, r2, r3⟩ := hr
    exact lv_if_lt hX.1.1 hX.1.2.1 hd ht (fun hb => by rw [if_pos hb] at r3; exact r3 c1 c2 r1 r2 as H locs ls hw hl) (fun hb => by rw [if_neg hb] at r3; exact r3 c1 c2 r1 r2 as H locs ls hw hl)
  · cases e
theorem mn_if_ge {g : mv_Gp} {y pc tgt : Nat} {off : Int} (hd : decode (g.M y).cc pc = .ok (.ifCond .ge off, 3)) (ht : (pc : Int) + off = (tgt : Int)) : mv_Snd g y pc (mi_if (fun x : Int32 => 0 ≤ x) tgt) := by
  intro x hX L stk h r e hr c1 c2 c3 c4 as H locs ls hw hl
  unfold mi_if at e
  dsimp only at e
  split at e
  · rename_i v st
    cases e
    obtain ⟨r1, r2, r3⟩ := hr
    exact lv_if_ge hX.1.1 hX.1.2.1 hd ht (fun hb => by rw [if_pos hb] at r3; exact r3 c1 c2 r1 r2 as H locs ls hw hl) (fun hb => by rw [if_neg hb] at r3; exact r3 c1 c2 r1 r2 as H locs ls hw hl)
  · cases e
theorem mn_if_gt {g : mv_Gp} {y pc tgt : Nat} {off : Int} (hd : decode (g.M y).cc pc = .ok (.ifCond .gt off, 3)) (ht : (pc : Int) + off = (tgt : Int)) : mv_Snd g y pc (mi_if (fun x : Int32 => 0 < x) tgt) := by
  intro x hX L stk h r e hr c1 c2 c3 c4 as H locs ls hw hl
  unfold mi_if at e
  dsimp only at e
  split at e
  · rename_i v st
    cases e
    obtain ⟨r1, r2, r3⟩ := hr
    exact lv_if_gt hX.1.1 hX.1.2.1 hd ht (fun hb => by rw [if_pos hb] at r3; exact r3 c1 c2 r1 r2 as H locs ls hw hl) (fun hb => by rw [if_neg hb] at r3; exact r3 c1 c2 r1 r2 as H locs ls hw hl)
  · cases e
theorem mn_if_le {g : mv_Gp} {y pc tgt : Nat} {off : Int} (hd : decode (g.M y).cc pc = .ok (.ifCond .le off, 3)) (ht : (pc : Int) + off = (tgt : Int)) : mv_Snd g y pc (mi_if (fun x : Int32 => x ≤ 0) tgt) := by
  intro x hX L stk h r e hr c1 c2 c3 c4 as H locs ls hw hl
  unfold mi_if at e
  dsimp only at e
  split at e
  · rename_i v st
    cases e
    obtain ⟨r1, r2, r3⟩ := hr
    exact lv_if_le hX.1.1 hX.1.2.1 hd ht (fun hb => by rw [if_pos hb] at r3; exact r3 c1 c2 r1 r2 as H locs ls hw hl) (fun hb => by rw [if_neg hb] at r3; exact r3 c1 c2 r1 r2 as H locs ls hw hl)
  · cases e
theorem mn_icmp_eq {g : mv_Gp} {y pc tgt : Nat} {off : Int} (hd : decode (g.M y).cc pc = .ok (.if_icmp .eq off, 3)) (ht : (pc : Int) + off = (tgt : Int)) : mv_Snd g y pc (mi_icmp (fun x y : Int32 => x = y) tgt) := by
  intro x hX L stk h r e hr c1 c2 c3 c4 as H locs ls hw hl
  unfold mi_icmp at e
  dsimp only at e
  split at e
  · rename_i w v st
    cases e
    obtain ⟨r1, r2, r3⟩ := hr
    exact lv_icmp_eq hX.1.1 hX.1.2.1 hd ht (fun hb => by rw [if_pos hb] at r3; exact r3 c1 c2 r1 r2 as H locs ls hw hl) (fun hb => by rw [if_neg hb] at r3; exact r3 c1 c2 r1 r2 as H locs ls hw hl)
  · cases e
theorem mn_icmp_ne {g : mv_Gp} {y pc tgt : Nat} {off : Int} (hd : decode (g.M y).cc pc = .ok (.if_icmp .ne off, 3)) (ht : (pc : Int) + off = (tgt : Int)) : mv_Snd g y pc (mi_icmp (fun x y : Int32 => ¬ x = y) tgt) := by
  intro x hX L stk h r e hr c1 c2 c3 c4 as H locs ls hw hl
  unfold mi_icmp at e
  dsimp only at e
  split at e
  · rename_i w v st
    cases e
    obtain ⟨r1, r2, r3⟩ := hr
    exact lv_icmp_ne hX.1.1 hX.1.2.1 hd ht (fun hb => by rw [if_pos hb] at r3; exact r3 c1 c2 r1 r2 as H locs ls hw hl) (fun hb => by rw [if_neg (not_not_intro hb)] at r3; exact r3 c1 c2 r1 r2 as H locs ls hw hl)
  · cases e
theorem mn_icmp_lt {g : mv_Gp} {y pc tgt : Nat} {off : Int} (hd : decode (g.M y).cc pc = .ok (.if_icmp .lt off, 3)) (ht : (pc : Int) + off = (tgt : Int)) : mv_Snd g y pc (mi_icmp (fun x y : Int32 => x < y) tgt) := by
  intro x hX L stk h r e hr c1 c2 c3 c4 as H locs ls hw hl
  unfold mi_icmp at e
  dsimp only at e
  split at e
  · rename_i w v st
    cases e
    obtain ⟨r1, r2, r3⟩ := hr
    exact lv_icmp_lt hX.1.1 hX.1.2.1 hd ht (fun hb => by rw [if_pos hb] at r3; exact r3 c1 c2 r1 r2 as H locs ls hw hl) (fun hb => by rw [if_neg hb] at r3; exact r3 c1 c2 r1 r2 as H locs ls hw hl)
  · cases e
theorem mn_icmp_ge {g : mv_Gp} {y pc tgt : Nat} {off : Int} (hd : decode (g.M y).cc pc = .ok (.if_icmp .ge off, 3)) (ht : (pc : Int) + off = (tgt : Int)) : mv_Snd g y pc (mi_icmp (fun x y : Int32 => y ≤ x) tgt) := by
  intro x hX L stk h r e hr c1 c2 c3 c4 as H locs ls hw hl
  unfold mi_icmp at e
  dsimp only at e
  split at e
  · rename_i w v st
    cases e
    obtain ⟨r1, r2, r3⟩ := hr
    exact lv_icmp_ge hX.1.1 hX.1.2.1 hd ht (fun hb => by rw [if_pos hb] at r3; exact r3 c1 c2 r1 r2 as H locs ls hw hl) (fun hb => by rw [if_neg hb] at r3; exact r3 c1 c2 r1 r2 as H locs ls hw hl)
  · cases e
theorem mn_icmp_gt {g : mv_Gp} {y pc tgt : Nat} {off : Int} (hd : decode (g.M y).cc pc = .ok (.if_icmp .gt off, 3)) (ht : (pc : Int) + off = (tgt : Int)) : mv_Snd g y pc (mi_icmp (fun x y : Int32 => y < x) tgt) := by
  intro x hX L stk h r e hr c1 c2 c3 c4 as H locs ls hw hl
  unfold mi_icmp at e
  dsimp only at e
  split at e
  · rename_i w v st
    cases e
    obtain ⟨r1, r2, r3⟩ := hr
    exact lv_icmp_gt hX.1.1 hX.1.2.1 hd ht (fun hb => by rw [if_pos hb] at r3; exact r3 c1 c2 r1 r2 as H locs ls hw hl) (fun hb => by rw [if_neg hb] at r3; exact r3 c1 c2 r1 r2 as H locs ls hw hl)
  · cases e
theorem mn_icmp_le {g : mv_Gp} {y pc tgt : Nat} {off : Int} (hd : decode (g.M y).cc pc = .ok (.if_icmp .le off, 3)) (ht : (pc : Int) + off = (tgt : Int)) : mv_Snd g y pc (mi_icmp (fun x y : Int32 => x ≤ y) tgt) := by
  intro x hX L stk h r e hr c1 c2 c3 c4 as H locs ls hw hl
  unfold mi_icmp at e
  dsimp only at e
  split at e
  · rename_i w v st
    cases e
    obtain ⟨r1, r2, r3⟩ := hr
    exact lv_icmp_le hX.1.1 hX.1.2.1 hd ht (fun hb => by rw [if_pos hb] at r3; exact r3 c1 c2 r1 r2 as H locs ls hw hl) (fun hb => by rw [if_neg hb] at r3; exact r3 c1 c2 r1 r2 as H locs ls hw hl)
  · cases e
end
section
theorem mv_in_ok {i : Int32} {n : Nat} (h : mv_in i n = true) : vp_in i n := by
  simp only [mv_in, Bool.and_eq_true, Bool.not_eq_true', decide_eq_false_iff_not, decide_eq_true_eq] at h
  intro q
  rcases q with q | q
  · exact h.1 q
  · omega
theorem mv_fit_ok {ty : FieldType} {v : Value} {as : List Nat} {sd : Nat → Option Nat} (h : mv_fit ty v = true) : narrow ty (mv_v as sd v) = mv_v as sd v ∧ fits ty (mv_v as sd v) = true := by
  unfold mv_fit at h
  split at h
  · exact ⟨rfl, rfl⟩
  · exact ⟨rfl, rfl⟩
  · rename_i x
    simp only [Bool.or_eq_true, decide_eq_true_eq] at h
    rcases h with rfl | rfl
    · exact ⟨show narrow .boolean (.int 0) = .int 0 by decide, show fits .boolean (.int 0) = true by decide⟩
    · exact ⟨show narrow .boolean (.int 1) = .int 1 by decide, show fits .boolean (.int 1) = true by decide⟩
  · exact ⟨rfl, rfl⟩
  · rename_i c9 k
    show narrow (.object c9) (va_rf (sd k)) = va_rf (sd k) ∧ fits (.object c9) (va_rf (sd k)) = true
    cases sd k <;> exact ⟨rfl, rfl⟩
  · exact ⟨rfl, rfl⟩
  · cases h
theorem mn_get {g : mv_Gp} {y pc ci k idx N : Nat} {C : String} {T : u_T} (hd : decode (g.M y).cc pc = .ok (.getfield idx, 3)) (hc : g.cl[ci]? = some (C, T, N)) (hk : k < N) (hin : ∀ w ∈ u_ws C T N, w ∈ g.G) (hlk : Cond.fieldLink (g.M y).nm.cls idx (T k).1 (T k).2.1 (T k).2.2.1 ∈ g.G) : mv_Snd g y pc (mi_get ci k) := by
  intro x hX L stk h r e hr c1 c2 c3 c4 as H locs ls hw hl
  unfold mi_get at e
  dsimp only at e
  split at e
  · rename_i q st
    split at e
    · rename_i cj fs hq
      cases hcj : Nat.beq cj ci with
      | false => rw [hcj] at e; cases e
      | true =>
        rw [hcj, cond_true] at e
        have hj := Nat.eq_of_beq_eq_true hcj
        subst hj
        split at e
        · rename_i v hv
          cases e
          have hts := hX.1.2.2.2.2.2.2.2.2.2
          exact va_get (D := x.D) (cl := g.cl) (ci := cj) (C := C) (T := T) (N := N) (tys := mv_tys x.cA g.tk) (ws := mv_w as x.sd x.cA h.1) (v := mv_v as x.sd v) (fs := fs.map (mv_v as x.sd)) hX.1.1 hX.1.2.1 hts hin hX.1.2.2.2.1 hX.2.1.1 hw.2.2.1 q (mv_w_at hw.1 hq) hc k hk (hts _ hlk) (fun _ h9 => h9) (by rw [List.getElem?_map, hv]; rfl) hd (hr.2.2 c1 c2 hr.1 hr.2.1 as H locs ls hw hl)
        · cases e
    · cases e
  · cases e
theorem mn_getN {g : mv_Gp} {y pc ci k idx N : Nat} {C host : String} {T : u_T} (hd : decode (g.M y).cc pc = .ok (.getfield idx, 3)) (hc : g.cl[ci]? = some (C, T, N)) (hk : k < N) (hin : ∀ w ∈ u_ws C T N, w ∈ g.G) (hlk : Cond.fieldLinkNest (g.M y).nm.cls idx (T k).1 (T k).2.1 (T k).2.2.1 host ∈ g.G) : mv_Snd g y pc (mi_get ci k) := by
  intro x hX L stk h r e hr c1 c2 c3 c4 as H locs ls hw hl
  unfold mi_get at e
  dsimp only at e
  split at e
  · rename_i q st
    split at e
    · rename_i cj fs hq
      cases hcj : Nat.beq cj ci with
      | false => rw [hcj] at e; cases e
      | true =>
        rw [hcj, cond_true] at e
        have hj := Nat.eq_of_beq_eq_true hcj
        subst hj
        split at e
        · rename_i v hv
          cases e
          have hts := hX.1.2.2.2.2.2.2.2.2.2
          exact va_getN (D := x.D) (cl := g.cl) (ci := cj) (C := C) (T := T) (N := N) (tys := mv_tys x.cA g.tk) (ws := mv_w as x.sd x.cA h.1) (v := mv_v as x.sd v) (fs := fs.map (mv_v as x.sd)) hX.1.1 hX.1.2.1 hts hin hX.1.2.2.2.1 hX.2.1.1 hw.2.2.1 q (mv_w_at hw.1 hq) hc k hk (hts _ hlk) (fun _ h9 => h9) (by rw [List.getElem?_map, hv]; rfl) hd (hr.2.2 c1 c2 hr.1 hr.2.1 as H locs ls hw hl)
        · cases e
    · cases e
  · cases e
theorem mn_put {g : mv_Gp} {y pc ci k idx N : Nat} {C host : String} {T : u_T} {ty : FieldType} (ty0 : Nat → FieldType) (hd : decode (g.M y).cc pc = .ok (.putfield idx, 3)) (hc : g.cl[ci]? = some (C, T, N)) (hk : k < N) (hin : ∀ w ∈ u_ws C T N, w ∈ g.G) (hty : ∀ k, k < N → parseFieldDescriptor (T k).2.2.1 = some (ty0 k)) (hnm : ∀ a, a < N → ∀ b, b < N → a ≠ b → (T a).2.1 ≠ (T b).2.1) (hlk : Cond.fieldLink (g.M y).nm.cls idx (T k).1 (T k).2.1 (T k).2.2.1 ∈ g.G) (hfin : (T k).2.2.2 = false) (hp : parseFieldDescriptor (T k).2.2.1 = some ty) : mv_Snd g y pc (mi_put ci k ty) := by
  intro x hX L stk h r e hr c1 c2 c3 c4 as H locs ls hw hl
  unfold mi_put at e
  dsimp only at e
  split at e
  · rename_i v q st
    split at e
    · rename_i cj fs hq
      cases hcj : (Nat.beq cj ci && mv_fit ty v && Nat.blt k fs.length) with
      | false => rw [hcj] at e; cases e
      | true =>
        rw [hcj, cond_true] at e
        simp only [Bool.and_eq_true] at hcj
        obtain ⟨⟨hj, hft⟩, hlt⟩ := hcj
        have hj := Nat.eq_of_beq_eq_true hj
        subst hj
        cases e
        have hts := hX.1.2.2.2.2.2.2.2.2.2
        obtain ⟨f1, f2⟩ := mv_fit_ok (as := as) (sd := x.sd) hft
        have hlt : k < fs.length := Nat.le_of_ble_eq_true hlt
        exact va_put (D := x.D) (cl := g.cl) (ci := cj) (C := C) (T := T) (N := N) (tys := mv_tys x.cA g.tk) (ws := mv_w as x.sd x.cA h.1) (v := mv_v as x.sd v) (fs := fs.map (mv_v as x.sd)) hX.1.1 hX.1.2.1 hts hin ty0 hty hnm hX.1.2.2.2.1 hX.2.1.1 hw.2.2.1 hw.2.2.2.1 hw.2.2.2.2 q (mv_w_at hw.1 hq) hc k hk (hts _ hlk) (fun _ h9 => h9) hfin hp f1 f2 (by rw [List.length_map]; exact hlt) hd (fun H1 locs1 hP hD hS => hr.2.2 c1 c2 hr.1 hr.2.1 as H1 locs1 ls ⟨by show as.length = (h.1.set q _).length; rw [List.length_set]; exact hw.1, hw.2.1, by rw [← List.map_set] at hP; show va_P _ _ (mv_w as x.sd x.cA (h.1.set q _)) _; rw [mv_w_set hw.1]; exact hP, by rw [← List.map_set] at hD; show va_D _ (mv_w as x.sd x.cA (h.1.set q _)); rw [mv_w_set hw.1]; exact hD, hS⟩ hl)
    · cases e
  · cases e
theorem mn_putN {g : mv_Gp} {y pc ci k idx N : Nat} {C host : String} {T : u_T} {ty : FieldType} (ty0 : Nat → FieldType) (hd : decode (g.M y).cc pc = .ok (.putfield idx, 3)) (hc : g.cl[ci]? = some (C, T, N)) (hk : k < N) (hin : ∀ w ∈ u_ws C T N, w ∈ g.G) (hty : ∀ k, k < N → parseFieldDescriptor (T k).2.2.1 = some (ty0 k)) (hnm : ∀ a, a < N → ∀ b, b < N → a ≠ b → (T a).2.1 ≠ (T b).2.1) (hlk : Cond.fieldLinkNest (g.M y).nm.cls idx (T k).1 (T k).2.1 (T k).2.2.1 host ∈ g.G) (hfin : (T k).2.2.2 = false) (hp : parseFieldDescriptor (T k).2.2.1 = some ty) : mv_Snd g y pc (mi_put ci k ty) := by
  intro x hX L stk h r e hr c1 c2 c3 c4 as H locs ls hw hl
  unfold mi_put at e
  dsimp only at e
  split at e
  · rename_i v q st
    split at e
    · rename_i cj fs hq
      cases hcj : (Nat.beq cj ci && mv_fit ty v && Nat.blt k fs.length) with
      | false => rw [hcj] at e; cases e
      | true =>
        rw [hcj, cond_true] at e
        simp only [Bool.and_eq_true] at hcj
        obtain ⟨⟨hj, hft⟩, hlt⟩ := hcj
        have hj := Nat.eq_of_beq_eq_true hj
        subst hj
        cases e
        have hts := hX.1.2.2.2.2.2.2.2.2.2
        obtain ⟨f1, f2⟩ := mv_fit_ok (as := as) (sd := x.sd) hft
        have hlt : k < fs.length := Nat.le_of_ble_eq_true hlt
        exact va_putN (D := x.D) (cl := g.cl) (ci := cj) (C := C) (T := T) (N := N) (tys := mv_tys x.cA g.tk) (ws := mv_w as x.sd x.cA h.1) (v := mv_v as x.sd v) (fs := fs.map (mv_v as x.sd)) hX.1.1 hX.1.2.1 hts hin ty0 hty hnm hX.1.2.2.2.1 hX.2.1.1 hw.2.2.1 hw.2.2.2.1 hw.2.2.2.2 q (mv_w_at hw.1 hq) hc k hk (hts _ hlk) (fun _ h9 => h9) hfin hp f1 f2 (by rw [List.length_map]; exact hlt) hd (fun H1 locs1 hP hD hS => hr.2.2 c1 c2 hr.1 hr.2.1 as H1 locs1 ls ⟨by show as.length = (h.1.set q _).length; rw [List.length_set]; exact hw.1, hw.2.1, by rw [← List.map_set] at hP; show va_P _ _ (mv_w as x.sd x.cA (h.1.set q _)) _; rw [mv_w_set hw.1]; exact hP, by rw [← List.map_set] at hD; show va_D _ (mv_w as x.sd x.cA (h.1.set q _)); rw [mv_w_set hw.1]; exact hD, hS⟩ hl)
    · cases e
  · cases e
theorem mn_putF {g : mv_Gp} {y pc ci k idx N : Nat} {C host : String} {T : u_T} {ty : FieldType} (ty0 : Nat → FieldType) (hd : decode (g.M y).cc pc = .ok (.putfield idx, 3)) (hc : g.cl[ci]? = some (C, T, N)) (hk : k < N) (hin : ∀ w ∈ u_ws C T N, w ∈ g.G) (hty : ∀ k, k < N → parseFieldDescriptor (T k).2.2.1 = some (ty0 k)) (hnm : ∀ a, a < N → ∀ b, b < N → a ≠ b → (T a).2.1 ≠ (T b).2.1) (hlk : Cond.fieldLink (g.M y).nm.cls idx (T k).1 (T k).2.1 (T k).2.2.1 ∈ g.G) (hfin : (T k).2.2.2 = true) (hini : (g.M y).nm.name = "<init>") (hdecl : (T k).1 = (g.M y).nm.cls) (hp : parseFieldDescriptor (T k).2.2.1 = some ty) : mv_Snd g y pc (mi_put ci k ty) := by
  intro x hX L stk h r e hr c1 c2 c3 c4 as H locs ls hw hl
  unfold mi_put at e
  dsimp only at e
  split at e
  · rename_i v q st
    split at e
    · rename_i cj fs hq
      cases hcj : (Nat.beq cj ci && mv_fit ty v && Nat.blt k fs.length) with
      | false => rw [hcj] at e; cases e
      | true =>
        rw [hcj, cond_true] at e
        simp only [Bool.and_eq_true] at hcj
        obtain ⟨⟨hj, hft⟩, hlt⟩ := hcj
        have hj := Nat.eq_of_beq_eq_true hj
        subst hj
        cases e
        have hts := hX.1.2.2.2.2.2.2.2.2.2
        obtain ⟨f1, f2⟩ := mv_fit_ok (as := as) (sd := x.sd) hft
        have hlt : k < fs.length := Nat.le_of_ble_eq_true hlt
        exact va_putF (D := x.D) (cl := g.cl) (ci := cj) (C := C) (T := T) (N := N) (tys := mv_tys x.cA g.tk) (ws := mv_w as x.sd x.cA h.1) (v := mv_v as x.sd v) (fs := fs.map (mv_v as x.sd)) hX.1.1 hX.1.2.1 hts hin ty0 hty hnm hX.1.2.2.2.1 hX.2.1.1 hw.2.2.1 hw.2.2.2.1 hw.2.2.2.2 q (mv_w_at hw.1 hq) hc k hk (hts _ hlk) (fun _ h9 => h9) hfin (by rw [hX.1.2.2.2.2.2.2.1]; exact hini) hdecl hp f1 f2 (by rw [List.length_map]; exact hlt) hd (fun H1 locs1 hP hD hS => hr.2.2 c1 c2 hr.1 hr.2.1 as H1 locs1 ls ⟨by show as.length = (h.1.set q _).length; rw [List.length_set]; exact hw.1, hw.2.1, by rw [← List.map_set] at hP; show va_P _ _ (mv_w as x.sd x.cA (h.1.set q _)) _; rw [mv_w_set hw.1]; exact hP, by rw [← List.map_set] at hD; show va_D _ (mv_w as x.sd x.cA (h.1.set q _)); rw [mv_w_set hw.1]; exact hD, hS⟩ hl)
    · cases e
  · cases e
theorem mn_iald {g : mv_Gp} {y pc : Nat} (hd : decode (g.M y).cc pc = .ok (.iaload, 1)) (ht : g.tk[0]? = some .int) : mv_Snd g y pc mi_iald := by
  intro x hX L stk h r e hr c1 c2 c3 c4 as H locs ls hw hl
  unfold mi_iald at e
  dsimp only at e
  split at e
  · rename_i i q st
    split at e
    · rename_i n a hq
      split at e
      · rename_i hin
        cases e
        exact va_iald (D := x.D) (cl := g.cl) (tys := mv_tys x.cA g.tk) (ws := mv_w as x.sd x.cA h.1) hX.1.1 hX.1.2.1 hX.2.1.1 hw.2.2.1 q 0 (mv_w_at hw.1 hq) (mv_tys_at ht) (mv_in_ok hin) hd (hr.2.2 c1 c2 hr.1 hr.2.1 as H locs ls hw hl)
      · cases e
    · cases e
  · cases e
theorem mn_lald {g : mv_Gp} {y pc : Nat} (hd : decode (g.M y).cc pc = .ok (.laload, 1)) (ht : g.tk[1]? = some .long) : mv_Snd g y pc mi_lald := by
  intro x hX L stk h r e hr c1 c2 c3 c4 as H locs ls hw hl
  unfold mi_lald at e
  dsimp only at e
  split at e
  · rename_i i q st
    split at e
    · rename_i n a hq
      split at e
      · rename_i hin
        cases e
        exact va_lald (D := x.D) (cl := g.cl) (tys := mv_tys x.cA g.tk) (ws := mv_w as x.sd x.cA h.1) hX.1.1 hX.1.2.1 hX.2.1.1 hw.2.2.1 q 1 (mv_w_at hw.1 hq) (mv_tys_at ht) (mv_in_ok hin) hd (hr.2.2 c1 c2 hr.1 hr.2.1 as H locs ls hw hl)
      · cases e
    · cases e
  · cases e
theorem mn_iast {g : mv_Gp} {y pc : Nat} (hd : decode (g.M y).cc pc = .ok (.iastore, 1)) (ht : g.tk[0]? = some .int) : mv_Snd g y pc mi_iast := by
  intro x hX L stk h r e hr c1 c2 c3 c4 as H locs ls hw hl
  unfold mi_iast at e
  dsimp only at e
  split at e
  · rename_i v i q st
    split at e
    · rename_i n a hq
      split at e
      · rename_i hin
        cases e
        exact va_iast (D := x.D) (cl := g.cl) (tys := mv_tys x.cA g.tk) (ws := mv_w as x.sd x.cA h.1) hX.1.1 hX.1.2.1 hX.2.1.1 hw.2.2.1 hw.2.2.2.1 hw.2.2.2.2 q 0 (mv_w_at hw.1 hq) (mv_tys_at ht) (mv_in_ok hin) hd (fun H1 locs1 hP hD hS => hr.2.2 c1 c2 hr.1 hr.2.1 as H1 locs1 ls ⟨by show as.length = (h.1.set q _).length; rw [List.length_set]; exact hw.1, hw.2.1, by show va_P _ _ (mv_w as x.sd x.cA (h.1.set q _)) _; rw [mv_w_set hw.1]; exact hP, by show va_D _ (mv_w as x.sd x.cA (h.1.set q _)); rw [mv_w_set hw.1]; exact hD, hS⟩ hl)
      · cases e
    · cases e
  · cases e
theorem mn_last {g : mv_Gp} {y pc : Nat} (hd : decode (g.M y).cc pc = .ok (.lastore, 1)) (ht : g.tk[1]? = some .long) : mv_Snd g y pc mi_last := by
  intro x hX L stk h r e hr c1 c2 c3 c4 as H locs ls hw hl
  unfold mi_last at e
  dsimp only at e
  split at e
  · rename_i v i q st
    split at e
    · rename_i n a hq
      split at e
      · rename_i hin
        cases e
        exact va_last (D := x.D) (cl := g.cl) (tys := mv_tys x.cA g.tk) (ws := mv_w as x.sd x.cA h.1) hX.1.1 hX.1.2.1 hX.2.1.1 hw.2.2.1 hw.2.2.2.1 hw.2.2.2.2 q 1 (mv_w_at hw.1 hq) (mv_tys_at ht) (mv_in_ok hin) hd (fun H1 locs1 hP hD hS => hr.2.2 c1 c2 hr.1 hr.2.1 as H1 locs1 ls ⟨by show as.length = (h.1.set q _).length; rw [List.length_set]; exact hw.1, hw.2.1, by show va_P _ _ (mv_w as x.sd x.cA (h.1.set q _)) _; rw [mv_w_set hw.1]; exact hP, by show va_D _ (mv_w as x.sd x.cA (h.1.set q _)); rw [mv_w_set hw.1]; exact hD, hS⟩ hl)
      · cases e
    · cases e
  · cases e
theorem mn_alen {g : mv_Gp} {y pc t : Nat} {ty : FieldType} (hd : decode (g.M y).cc pc = .ok (.arraylength, 1)) (ht : g.tk[t]? = some ty) : mv_Snd g y pc (mi_alen t) := by
  intro x hX L stk h r e hr c1 c2 c3 c4 as H locs ls hw hl
  unfold mi_alen at e
  dsimp only at e
  split at e
  · rename_i q st
    split at e
    · rename_i t9 n a hq
      cases hcj : Nat.beq t9 t with
      | false => rw [hcj] at e; cases e
      | true =>
        rw [hcj, cond_true] at e
        have hj := Nat.eq_of_beq_eq_true hcj
        subst hj
        cases e
        exact va_alen (D := x.D) (cl := g.cl) (tys := mv_tys x.cA g.tk) (ws := mv_w as x.sd x.cA h.1) hX.1.1 hX.1.2.1 hX.2.1.1 hw.2.2.1 q t9 (mv_w_at hw.1 hq) (mv_tys_at ht) rfl hd (hr.2.2 c1 c2 hr.1 hr.2.1 as H locs ls hw hl)
    · cases e
  · cases e
theorem mv_push_len {as : List Nat} {q n : Nat} (h : as.length = n) : (as ++ [q]).getD n 0 = q := by
  subst h
  simp [List.getD_eq_getElem?_getD]
theorem mn_new {g : mv_Gp} {y pc ci idx N : Nat} {C : String} {T : u_T} {fs : List Value} (ty0 : Nat → FieldType) (hd : decode (g.M y).cc pc = .ok (.new idx, 3)) (hc : g.cl[ci]? = some (C, T, N)) (hin : ∀ w ∈ u_ws C T N, w ∈ g.G) (hty : ∀ k, k < N → parseFieldDescriptor (T k).2.2.1 = some (ty0 k))
    (hk1 : Cond.classLink (g.M y).nm.cls idx C ∈ g.G) (hk2 : Cond.instantiable C N ∈ g.G) (hk3 : Cond.initialized C ∈ g.G) (hN : fs.length = N) (hfs : ∀ (as : List Nat) (sd : Nat → Option Nat) (j : Nat), j < N → defaultValue (ty0 j) = vp_V (fs.map (mv_v as sd)) j) (hws : mv_ws 0 fs = true) : mv_Snd g y pc (mi_new ci fs) := by
  intro x hX L stk h r e hr c1 c2 c3 c4 as H locs ls hw hl
  unfold mi_new at e
  dsimp only at e
  cases hb : mv_all (pc, L, stk) h with
  | false => rw [hb] at e; cases e
  | true =>
    rw [hb, cond_true] at e
    cases e
    simp only [mv_all, Bool.and_eq_true] at hb
    obtain ⟨⟨b1, b2⟩, b3⟩ := hb
    obtain ⟨r1, r2, r3⟩ := hr
    dsimp only at r1 r2
    have hts := hX.1.2.2.2.2.2.2.2.2.2
    have q1 := hX.2.2.1
    have q2 := hX.2.2.2.1
    have hwx : mv_wc h.1.length (.inr (ci, fs)) = true := by
      show mv_ws h.1.length fs = true
      clear r3 hfs hN r1 r2
      induction fs with
      | nil => rfl
      | cons v r ih =>
        simp only [mv_ws, Bool.and_eq_true] at hws ⊢
        refine ⟨?_, ih hws.2⟩
        cases v with
        | ref z => simp [mv_wv, Nat.blt] at hws
        | _ => rfl
    refine va_new (D := x.D) (cl := g.cl) (ci := ci) (C := C) (T := T) (N := N) (tys := mv_tys x.cA g.tk) (ws := mv_w as x.sd x.cA h.1) (fs := fs.map (mv_v as x.sd)) hX.1.1 hX.1.2.1 hts hin ty0 hty hX.1.2.2.2.1 (hts _ hk1) (hts _ hk2) (hts _ hk3) hX.2.1.1 hw.2.2.1 hw.2.2.2.1 hw.2.2.2.2 hX.2.1.2.2.1 hc (hfs as x.sd) (by omega) (by omega) hd (fun q H1 hP hD hS => ?_)
    have k := r3 (by show x.c0 ≤ h.2.1 + 1; omega) (by show x.s0 ≤ h.2.2 + fs.length; omega) r1 r2 (as ++ [q]) H1 locs ls ⟨by show _ = (h.1 ++ [_]).length; simp [hw.1], hw.2.1.trans (List.prefix_append _ _), by show va_P _ _ (mv_w _ _ _ (h.1 ++ [_])) _; rw [mv_w_push hw.1 q _ b3 hwx]; exact hP, by show va_D _ (mv_w _ _ _ (h.1 ++ [_])); rw [mv_w_push hw.1 q _ b3 hwx]; exact hD, hS⟩ (hl.app (by rw [hw.1]; exact b1))
    have e1 : h.2.1 + 1 - x.c0 = h.2.1 - x.c0 + 1 := by omega
    have e2 : h.2.2 + fs.length - x.s0 = h.2.2 - x.s0 + N := by omega
    have e3 : ((Value.ref h.1.length :: stk).map (mv_v (as ++ [q]) x.sd)) = .ref q :: stk.map (mv_v as x.sd) := by
      rw [List.map_cons, mv_s_app (by rw [hw.1]; exact b2)]
      show Value.ref ((as ++ [q]).getD h.1.length 0) :: _ = _
      rw [mv_push_len hw.1]
    dsimp only at k
    rw [e1, e2, e3] at k
    exact k
theorem mn_newa {g : mv_Gp} {y pc t : Nat} {atype : ArrayType} {ty : FieldType} {z : (Nat → Int32) ⊕ (Nat → Int64) ⊕ (Nat → UInt32) ⊕ (Nat → UInt64) ⊕ (Nat → Option Nat)} (hd : decode (g.M y).cc pc = .ok (.newarray atype, 2)) (hty : newarray.typeOf atype = ty) (hprim : ty = .int ∨ ty = .long) (ht : g.tk[t]? = some ty) (hk1 : Cond.arrayClass ty ∈ g.G)
    (hz : ∀ (cA : ClassId) (n : Nat), vp_cell cA (n, z) = arrV cA n (fun _ => defaultValue ty)) : mv_Snd g y pc (mi_newa t z) := by
  intro x hX L stk h r e hr c1 c2 c3 c4 as H locs ls hw hl
  unfold mi_newa at e
  dsimp only at e
  split at e
  · rename_i n st
    cases hb : (mv_all (pc, L, .int n :: st) h && !(decide (n < 0)) && decide (n.toNatClampNeg ≤ 1000000)) with
    | false => rw [hb] at e; cases e
    | true =>
      rw [hb, cond_true] at e
      cases e
      simp only [mv_all, mv_ws, Bool.and_eq_true, Bool.not_eq_true', decide_eq_false_iff_not, decide_eq_true_eq] at hb
      obtain ⟨⟨⟨⟨b1, -, b2⟩, b3⟩, b4⟩, b5⟩ := hb
      obtain ⟨r1, r2, r3⟩ := hr
      dsimp only at r1 r2
      have hts := hX.1.2.2.2.2.2.2.2.2.2
      have q1 := hX.2.2.1
      have q2 := hX.2.2.2.1
      subst hty
      refine va_newa (D := x.D) (cl := g.cl) (tys := mv_tys x.cA g.tk) (ws := mv_w as x.sd x.cA h.1) (a0 := (n.toNatClampNeg, z)) hX.1.1 hX.1.2.1 (hts _ hk1) rfl hX.2.1.1 hw.2.2.1 hw.2.2.2.1 hw.2.2.2.2 hX.2.1.2.2.1 (fun cA => hz cA _) b4 rfl (by rcases hprim with hp | hp <;> rw [hp] <;> simp [componentBytes] <;> omega) (by omega) (by omega) hd (fun q cA' H1 hK' hP hD hS => ?_)
      have ec : cA' = x.cA t := by
        have k1 := (hK'.2 (mv_tys x.cA g.tk).length (cA', newarray.typeOf atype) (by rw [List.getElem?_append_right (Nat.le_refl _), Nat.sub_self]; rfl)).2
        have k2 := (hX.2.1.1.2 t _ (mv_tys_at ht)).2
        rcases hprim with hp | hp <;> rw [hp] at k1 k2 <;> exact Option.some.inj (k1.symm.trans k2)
      subst ec
      have hwx : mv_wc h.1.length (.inl (t, n.toNatClampNeg, z)) = true := rfl
      have k := r3 (by show x.c0 ≤ h.2.1 + 1; omega) (by show x.s0 ≤ h.2.2 + n.toNatClampNeg; omega) r1 r2 (as ++ [q]) H1 locs ls ⟨by show _ = (h.1 ++ [_]).length; simp [hw.1], hw.2.1.trans (List.prefix_append _ _), by show va_P _ _ (mv_w _ _ _ (h.1 ++ [_])) _; rw [mv_w_push hw.1 q _ b3 hwx]; exact hP, by show va_D _ (mv_w _ _ _ (h.1 ++ [_])); rw [mv_w_push hw.1 q _ b3 hwx]; exact hD, hS⟩ (hl.app (by rw [hw.1]; exact b1))
      have e1 : h.2.1 + 1 - x.c0 = h.2.1 - x.c0 + 1 := by omega
      have e2 : h.2.2 + n.toNatClampNeg - x.s0 = h.2.2 - x.s0 + n.toNatClampNeg := by omega
      have e3 : ((Value.ref h.1.length :: st).map (mv_v (as ++ [q]) x.sd)) = .ref q :: st.map (mv_v as x.sd) := by
        rw [List.map_cons, mv_s_app (by rw [hw.1]; exact b2)]
        show Value.ref ((as ++ [q]).getD h.1.length 0) :: _ = _
        rw [mv_push_len hw.1]
      dsimp only at k
      rw [e1, e2, e3] at k
      exact k
  · cases e
theorem mn_obj {g : mv_Gp} {y pc idx : Nat} (hd : decode (g.M y).cc pc = .ok (.invokespecial idx, 3)) (hk1 : Cond.methodLink (g.M y).nm.cls idx Lib.objectInit ∈ g.G) (hk2 : Cond.instanceMethod Lib.objectInit ∈ g.G) (hk3 : Cond.code Lib.objectInit ⟨#[0xb1]⟩ 1 none ∈ g.G) (hfr : 1 ≤ (g.M y).fr) (hlo : 20 ≤ (g.M y).lo) : mv_Snd g y pc mi_obj := by
  intro x hX L stk h r e hr c1 c2 c3 c4 as H locs ls hw hl
  unfold mi_obj at e
  dsimp only at e
  split at e
  · rename_i q st
    split at e
    · cases e
      have hts := hX.1.2.2.2.2.2.2.2.2.2
      have q3 := hX.2.2.2.2.1
      have q4 := hX.2.2.2.2.2.1
      exact W.objInit hX.1.1 hX.1.2.1 hX.1.2.2.2.1 (hts _ hk1) (hts _ hk2) (hts _ hk3) rfl (by rw [hX.1.2.2.1]; exact hl.2.1) rfl hd (by omega) (by show 2 * 0 + (List.map _ ([] : List Value)).sum + 12 ≤ _; simp; omega) (hr.2.2 c1 c2 hr.1 hr.2.1 as H locs ls hw hl)
    · cases e
  · cases e
theorem mv_nd {g : mv_Gp} {x : mv_Cx} {as : List Nat} {h : mv_H} {H : Heap} {locs : List Loc} {t : State} (hw : mv_Wr g x as h H locs) (ht : t.heap = H) : mv_Nd g x.D x.cA x.sd x.A x.as0 h x.s t as := ⟨hw.2.1, hw.1, by rw [ht]; exact hw.2.2.1, hw.2.2.2.1, hw.2.2.2.2.F ht⟩
theorem mn_iret {g : mv_Gp} {y pc : Nat} (hd : decode (g.M y).cc pc = .ok (.ireturn, 1)) (hret : (g.M y).ret = some .int) : mv_Snd g y pc mi_iret := by
  intro x hX L stk h r e hr c1 c2 c3 c4 as H locs ls hw hl
  unfold mi_iret at e
  dsimp only at e
  split at e
  · rename_i v
    cases e
    obtain ⟨ho, hh⟩ := hr
    subst hh
    exact mz_ret (W.iret (v := v) hX.1.1 hX.1.2.1 (by rw [hX.1.2.2.2.2.2.1]; exact hret) (fun t ht hW => hX.2.2.2.2.2.2.1 (some (.int v)) as t ho (mv_nd hw ht) hW.alike) (fun q hq => hX.2.1.2.2.2 _ (hw.2.2.2.2.2.2 q hq)) hd hX.1.2.2.2.2.1)
  · cases e
theorem mn_zret {g : mv_Gp} {y pc : Nat} (hd : decode (g.M y).cc pc = .ok (.ireturn, 1)) (hret : (g.M y).ret = some .boolean) : mv_Snd g y pc mi_zret := by
  intro x hX L stk h r e hr c1 c2 c3 c4 as H locs ls hw hl
  unfold mi_zret at e
  dsimp only at e
  split at e
  · rename_i v
    split at e
    · rename_i hv
      cases e
      obtain ⟨ho, hh⟩ := hr
      subst hh
      exact mz_ret (W.zret (v := v) (ty := .boolean) hX.1.1 hX.1.2.1 (by rw [hX.1.2.2.2.2.2.1]; exact hret) (by rcases hv with rfl | rfl <;> decide) (fun t ht hW => hX.2.2.2.2.2.2.1 (some (.int v)) as t ho (mv_nd hw ht) hW.alike) (fun q hq => hX.2.1.2.2.2 _ (hw.2.2.2.2.2.2 q hq)) hd hX.1.2.2.2.2.1)
    · cases e
  · cases e
theorem mn_vret {g : mv_Gp} {y pc : Nat} (hd : decode (g.M y).cc pc = .ok (.return_, 1)) (hret : (g.M y).ret = none) : mv_Snd g y pc mi_vret := by
  intro x hX L stk h r e hr c1 c2 c3 c4 as H locs ls hw hl
  unfold mi_vret at e
  dsimp only at e
  split at e
  · cases e
    obtain ⟨ho, hh⟩ := hr
    subst hh
    exact mz_ret (W.vret hX.1.1 hX.1.2.1 (by rw [hX.1.2.2.2.2.2.1]; exact hret) (fun t ht hW => hX.2.2.2.2.2.2.1 none as t ho (mv_nd hw ht) hW.alike) (fun q hq => hX.2.1.2.2.2 _ (hw.2.2.2.2.2.2 q hq)) hd hX.1.2.2.2.2.1)
  · cases e
theorem mn_aret {g : mv_Gp} {y pc : Nat} {rt : FieldType} (hd : decode (g.M y).cc pc = .ok (.areturn, 1)) (hret : (g.M y).ret = some rt) (hrt : (∃ n, rt = .object n) ∨ ∃ t, rt = .array t) : mv_Snd g y pc mi_aret := by
  intro x hX L stk h r e hr c1 c2 c3 c4 as H locs ls hw hl
  unfold mi_aret at e
  dsimp only at e
  split at e
  · rename_i v
    cases e
    obtain ⟨ho, hh⟩ := hr
    subst hh
    exact mz_ret (W.aret (v := .ref (as.getD v 0)) hX.1.1 hX.1.2.1 (by rw [hX.1.2.2.2.2.2.1]; exact hret) hrt (Or.inr ⟨_, rfl⟩) (fun t ht hW => hX.2.2.2.2.2.2.1 (some (.ref v)) as t ho (mv_nd hw ht) hW.alike) (fun q hq => hX.2.1.2.2.2 _ (hw.2.2.2.2.2.2 q hq)) hd hX.1.2.2.2.2.1)
  · rename_i v
    cases e
    obtain ⟨ho, hh⟩ := hr
    subst hh
    exact mz_ret (W.aret (v := va_rf (x.sd v)) hX.1.1 hX.1.2.1 (by rw [hX.1.2.2.2.2.2.1]; exact hret) hrt (by cases x.sd v; exact Or.inl rfl; exact Or.inr ⟨_, rfl⟩) (fun t ht hW => hX.2.2.2.2.2.2.1 (some (.retAddr v)) as t ho (mv_nd hw ht) hW.alike) (fun q hq => hX.2.1.2.2.2 _ (hw.2.2.2.2.2.2 q hq)) hd hX.1.2.2.2.2.1)
  · cases e
end
section
/-! A CALLEE RETURNS OR THROWS, back in the caller's walk -/
section MZ
variable {p : Program} {l : Launch} {e : Env} {R : Room} {s : State} {m : MethodId} {args : Array Value} {below : List Frame} {meth : Method} {c : Code} {T : State} {locs : List Loc} {cells slots : Nat}
/-- the caller's state behind a call: the heap and the tables are the callee's -/
abbrev mz_U (U t : State) : State := ({ U with heap := t.heap, slotsUsed := t.slotsUsed } : State).setVm t.vm
theorem mz_stand (X : Stand p l e R s m args below meth c T locs cells slots) {f : JFrame} {mk : MethodId} {a : Array Value} {t : State} {L : List Loc} {mc ms : Nat} (hW : (T.calling f mk a).WarmedH t.vm)
    (hs : (T.calling f mk a).sameButNew ({ t with vm := (T.calling f mk a).vm } : State) L mc ms) : Stand p l e R s m args below meth c (mz_U T t) (locs ++ L) (cells + mc) (slots + ms) := by
  obtain ⟨-, q2, q3, q4, q5, q6⟩ := hs
  have hW' : T.WarmedH t.vm := hW
  obtain ⟨g₀, hg0⟩ := Option.isSome_iff_exists.mp X.here.top
  obtain ⟨r, hr⟩ := State.topJava?_eq_some.mp hg0
  have hsame : T.sameButNew ({ T with heap := t.heap, slotsUsed := t.slotsUsed } : State) L mc ms := by
    refine ⟨?_, q2, q3, q4, q5, q6⟩
    obtain ⟨th, ht, -⟩ := State.frames_cons hr
    show ({ T with heap := t.heap, slotsUsed := t.slotsUsed } : State) = { T.setFrames T.frames with heap := t.heap, slotsUsed := t.slotsUsed }
    rw [State.setFrames_self ht]
  exact ⟨X.admits, X.cas, X.clock, X.frames, X.room, X.hears, X.method, X.code, (X.here.setHeapUsed t.heap t.slotsUsed).setVm hW'.alike, X.tail, State.WarmedH.trans X.warmed hW', X.limits, X.bytes, X.same.trans (hsame.setVm s.vm)⟩
theorem mz_back {f : JFrame} {mk : MethodId} {a : Array Value} {ig : Instr} {len : Nat} (h : At T f.method c below) (hdg : decode c.code f.pc = .ok (ig, len)) {t : State} {L : List Loc} {mc ms : Nat} {o : Outcome} (hW : (T.calling f mk a).WarmedH t.vm)
    (hs : (T.calling f mk a).sameButNew ({ t with vm := (T.calling f mk a).vm } : State) L mc ms) (hend : Ended t (T.setTop f).frames o) :
    match o with
    | .returned v => t = (mz_U T t).setTop { f with pc := f.pc + len, stack := v.toList ++ f.stack }
    | .threw q => t = ((mz_U T t).setTop f).pushFrame (.throwing q) := by
  obtain ⟨e2, -⟩ := hs
  have e3 : t = ({ (T.calling f mk a).setFrames t.frames with heap := t.heap, slotsUsed := t.slotsUsed } : State).setVm t.vm := by
    have : t = ({ t with vm := (T.calling f mk a).vm } : State).setVm t.vm := rfl
    rw [e2] at this
    exact this
  obtain ⟨g₀, hg0⟩ := Option.isSome_iff_exists.mp h.top
  obtain ⟨r, hr⟩ := State.topJava?_eq_some.mp hg0
  have hr' : (mz_U T t).frames = .java g₀ :: r := hr
  rw [State.frames_setTop' f h.top] at hend
  have hW' : T.WarmedH t.vm := hW
  cases o with
  | returned v =>
    obtain ⟨c₂, i₂, len₂, hc₂, hd₂, hf₂⟩ := hend
    have hcc : c₂ = c := by
      have h1 : t.code? f.method = T.code? f.method := by rw [State.code?_eq, State.code?_eq, hW'.alike.method?]
      exact Option.some.inj (hc₂.symm.trans (h1.trans h.code))
    subst hcc
    have hlen : len₂ = len := by rw [hdg] at hd₂; cases hd₂; rfl
    subst hlen
    refine e3.trans ?_
    rw [hf₂, State.calling_eq h.top, State.setFrames_setFrames, State.setTop_of_frames _ hr', hr]
    rfl
  | threw q =>
    have hf₂ : t.frames = .throwing q :: .java f :: T.frames.tail := hend
    refine e3.trans ?_
    rw [hf₂, State.calling_eq h.top, State.setFrames_setFrames, State.pushFrame, State.frames_setTop _ hr', State.setTop_of_frames _ hr', State.setFrames_setFrames, hr]
    rfl
/-- the call's own step over, the callee's contract gives one of two ends -/
theorem mz_call {y : MethodName} {w : Cond} {rm : Room} {Pc : Array Value → State → Prop} {E : Array Value → State → Outcome → State → Prop} {free : Nat → Prop} {maxL : Nat} (hM : mz_Met l y w rm Pc E rm.cells rm.slots free) (hbl : FrameBlind Pc)
    (X : Stand p l e R s m args below meth c T locs cells slots) {f : JFrame} (hg : f.method = m) (hsize : f.locals.size = c.maxLocals) {ig : Instr} {len : Nat} (hdg : decode c.code f.pc = .ok (ig, len)) {mk : MethodId} (hn : T.methodNamed? y = some mk) {a : Array Value}
    (hw : w.before a T = true) (hcode : ∃ methY cY, T.vm.method? mk = some methY ∧ methY.code = some cY ∧ cY.maxLocals = maxL) (hini : (Cond.initialized y.cls).before a T = true)
    (hfr : rm.frames + 1 ≤ R.frames) (hlo : 2 * f.monitorRoom + (f.stack.map fun v => v.category).sum + (maxL + 11) + rm.locals ≤ R.locals) (hc : cells + rm.cells ≤ R.cells) (hs : slots + rm.slots ≤ R.slots) (hp : Pc a T) :
    ∃ (o : Outcome) (t : State) (L : List Loc), E a (T.calling f mk a) o t ∧ (∀ z ∈ L, free z.base) ∧ Stand p l e R s m args below meth c (mz_U T t) (locs ++ L) (cells + rm.cells) (slots + rm.slots) ∧
      match o with
      | .returned v => Steps p.tables e below (doInvoke e (T.setTop f) [] mk a).1 ((mz_U T t).setTop { f with pc := f.pc + len, stack := v.toList ++ f.stack })
      | .threw q => Steps p.tables e below (doInvoke e (T.setTop f) [] mk a).1 (((mz_U T t).setTop f).pushFrame (.throwing q)) := by
  obtain ⟨methY, cY, hmY, hcY, hlY⟩ := hcode
  obtain ⟨kY, hkY, -⟩ := className_of_methodNamed hn
  have hinitY : kY.init = .initialized := Cond.initialized_spec (findClass_of_methodNamed hn) hkY hini
  have h : At T f.method c below := by rw [hg]; exact X.here
  have hpre : (headSpec [w] rm).pre.before a T = true := atoms_intro (ws := [w]) fun w' hw' => by rw [List.mem_singleton.mp hw']; exact hw
  have happ : (headSpec [w] rm).appliesLoose y e.platform (T.calling f mk a) = true :=
    Spec.appliesLoose_calling (g := f) h hdg hn hkY hinitY (X.room_calling (g := f) (R' := rm) hsize hmY hcY hfr (by rw [hlY]; omega) hc hs) hpre
  obtain ⟨mid, hmid⟩ := h.above
  have hfr2 : (T.setTop f).frames = (.java f :: mid) ++ below := by rw [State.frames_setTop' f h.top, hmid]; rfl
  obtain ⟨o, t, hsteps, -, hend, hq⟩ := Steps.callFree hM p X.admits X.cas X.clock (acts := []) hfr2 happ (hbl a T f mk hp) trivial
  obtain ⟨hE, hW, L, hsm, hL⟩ := hq
  have hb := mz_back (f := f) (mk := mk) (a := a) h hdg hW hsm hend
  refine ⟨o, t, L, hE, hL, mz_stand (f := f) (mk := mk) (a := a) X hW hsm, ?_⟩
  cases o with
  | returned v => dsimp only at hb ⊢; rw [← hb]; exact hsteps
  | threw q => dsimp only at hb ⊢; rw [← hb]; exact hsteps
end MZ
/-! WHAT IS THROWN OVER A FRAME, AND CAUGHT THERE: the search may note classes in the tables -/
section MZC
variable {e : Env} {s : State} {f : JFrame} {a : Addr} {c : Code} {below : List Frame} {tb : Tables} {target : State}
def mz_F (e : Env) (S : State) (f : JFrame) (a : Addr) (h : Handler) (vm' : Vm) : Prop := ∀ (Q : Handler → Pre) (E : CtlPost) (d : Bool) (acts : List Action), wp (findHandler f a) Q E e d acts S ↔ Q h d acts (S.setVm vm')
theorem mz_step {r : List Frame} {pc : Nat} {vm' : Vm} (hfind : mz_F e s f a (.found pc) vm') : (stepThrowing e s a (.java f :: r)).Is ((s.setVm vm').setFrames (.java { f with pc := pc, stack := [.ref a] } :: r)) [] := by
  simp only [stepThrowing, searchFrame, vmDo]
  generalize hr : Sem.go _ e false [] s = res
  obtain ⟨as, rfl, ha⟩ := Sem.eq_ok_of hr (a := Handler.found pc) (s' := s.setVm vm') (acts' := []) (by simp [hfind _ _ _ _])
  exact ⟨rfl, ha⟩
theorem mz_caught (h : At s f.method c below) {pc : Nat} {vm' : Vm} (hfind : mz_F e ((s.setTop f).pushFrame (.throwing a)) f a (.found pc) vm')
    (hrest : Steps tb e below ((s.setVm vm').setTop { f with pc := pc, stack := [.ref a] }) target) : Steps tb e below ((s.setTop f).pushFrame (.throwing a)) target := by
  obtain ⟨hgo, hw⟩ := h.throwing a
  refine Steps.head hgo hw ?_
  rw [stepThread_throwing (frames_entered h.top _), (mz_step (s := (s.setTop f).pushFrame (.throwing a)) hfind).1]
  obtain ⟨g₀, hg⟩ := Option.isSome_iff_exists.mp h.top
  obtain ⟨r, hr⟩ := State.topJava?_eq_some.mp hg
  have hr' : (s.setVm vm').frames = .java g₀ :: r := hr
  rw [State.setTop_of_frames _ hr'] at hrest
  rw [State.pushFrame, State.setTop_of_frames _ hr, State.setFrames_setFrames]
  have e1 : (((s.setFrames (.throwing a :: (s.setFrames (.java f :: r)).frames)).setVm vm').setFrames (.java { f with pc := pc, stack := [.ref a] } :: s.frames.tail)) = (s.setVm vm').setFrames (.java { f with pc := pc, stack := [.ref a] } :: r) := by
    rw [hr]
    show (((s.setVm vm').setFrames _).setFrames _) = _
    rw [State.setFrames_setFrames]
    rfl
  rw [e1]
  exact hrest
/-- an entry that names a class: it is noted; then it is asked -/
theorem mz_entry {x : ExceptionTableEntry} {t : List ExceptionTableEntry} {k : ClassId} {cell : Cell} (hx : covers x f.pc = true) (h0 : x.catchType ≠ 0) (hl : s.vm.ClassLinks e.platform f.method.cls x.catchType k) (hcell : s.heap[a]? = some cell) (hobj : ∀ z, cell.vm ≠ .statics z)
    (hk : ∃ z, s.vm.classes[cell.cls]? = some z) (hc : ∃ z, s.vm.classes[k]? = some z) (b : Bool) (hb : s.vm.assignable cell.cls k = b) {Q : Handler → Pre} {E : CtlPost} {d : Bool} {acts : List Action} :
    wp (findHandler.go f a (x :: t)) Q E e d acts s ↔ if b = true then Q (.found x.handlerPc) d acts (s.setVm (s.vm.noted f.method.cls x.catchType (.cls k))) else wp (findHandler.go f a t) Q E e d acts (s.setVm (s.vm.noted f.method.cls x.catchType (.cls k))) := by
  simp only [covers] at hx
  obtain ⟨ha, ht⟩ := (resolveClass_links e.toSetting hl).op (op := VmOp.resolveClass f.method.cls x.catchType) rfl
  have hal : s.vm.Alike (s.vm.noted f.method.cls x.catchType (.cls k)) := (Vm.Alike.refl s.vm).noted _ _ _
  obtain ⟨z1, hz1⟩ := hk
  obtain ⟨z2, hz2⟩ := hc
  obtain ⟨y1, hy1, -⟩ := hal.2.2 _ _ hz1
  obtain ⟨y2, hy2, -⟩ := hal.2.2 _ _ hz2
  have hb' : (s.vm.noted f.method.cls x.catchType (.cls k)).assignable cell.cls k = b := by rw [hal.assignable]; exact hb
  cases b <;> simp [findHandler.go, hx, h0, ha, ht, hcell, hobj, hy1, hy2, hb', VmOp.dirties, VmOp.acts]
theorem mz_search {s₀ : State} {cell : Cell} (hobj : ∀ z, cell.vm ≠ .statics z) (hk0 : ∃ z, s₀.vm.classes[cell.cls]? = some z) (x : ExceptionTableEntry) (suf : List ExceptionTableEntry) (hx : covers x f.pc = true) (h0 : x.catchType ≠ 0) {k : ClassId} (hl : s₀.vm.ClassLinks e.platform f.method.cls x.catchType k) (hfit : s₀.vm.assignable cell.cls k = true) :
    ∀ (pre : List ExceptionTableEntry) (S : State), s₀.WarmedH S.vm → S.heap[a]? = some cell → (∀ y ∈ pre, covers y f.pc = false ∨ (y.catchType ≠ 0 ∧ ∃ k', s₀.vm.ClassLinks e.platform f.method.cls y.catchType k' ∧ s₀.vm.assignable cell.cls k' = false)) →
      ∃ vm', s₀.WarmedH vm' ∧ ∀ (Q : Handler → Pre) (E : CtlPost) (d : Bool) (acts : List Action), wp (findHandler.go f a (pre ++ x :: suf)) Q E e d acts S ↔ Q (.found x.handlerPc) d acts (S.setVm vm') := by
  obtain ⟨z0, hz0⟩ := hk0
  intro pre
  induction pre with
  | nil =>
    intro S hW hcell _
    obtain ⟨y0, hy0, -⟩ := hW.alike.2.2 _ _ hz0
    obtain ⟨dk, _, _, kt, hd, _, _, _, _, hkt, _, hopen⟩ := hl.here
    obtain ⟨yt, hyt, -⟩ := hW.alike.2.2 _ _ hkt
    exact ⟨_, hW.noted hd hopen (State.rightAt_cls hl), fun Q E d acts => by
      rw [List.nil_append, mz_entry hx h0 (hW.classLinks hl) hcell hobj ⟨y0, hy0⟩ ⟨yt, hyt⟩ true (by rw [hW.alike.assignable]; exact hfit), if_pos rfl]⟩
  | cons y ys ih =>
    intro S hW hcell hpass
    have hrest : ∀ z ∈ ys, covers z f.pc = false ∨ (z.catchType ≠ 0 ∧ ∃ k', s₀.vm.ClassLinks e.platform f.method.cls z.catchType k' ∧ s₀.vm.assignable cell.cls k' = false) := fun z hz => hpass z (List.mem_cons_of_mem _ hz)
    cases hcov : covers y f.pc with
    | false =>
      obtain ⟨vm', hW', hq⟩ := ih S hW hcell hrest
      exact ⟨vm', hW', fun Q E d acts => by
        rw [List.cons_append, W.findHandler_go_skip hcov]
        exact hq Q E d acts⟩
    | true =>
      rcases hpass y List.mem_cons_self with h | ⟨hy0, k', hl', hno⟩
      · rw [h] at hcov; cases hcov
      · obtain ⟨y0, hy0', -⟩ := hW.alike.2.2 _ _ hz0
        obtain ⟨dk, _, _, kt, hd, _, _, _, _, hkt, _, hopen⟩ := hl'.here
        obtain ⟨yt, hyt, -⟩ := hW.alike.2.2 _ _ hkt
        obtain ⟨vm', hW', hq⟩ := ih (S.setVm (S.vm.noted f.method.cls y.catchType (.cls k'))) (hW.noted hd hopen (State.rightAt_cls hl')) hcell hrest
        exact ⟨vm', hW', fun Q E d acts => by
          rw [List.cons_append, mz_entry hcov hy0 (hW.classLinks hl') hcell hobj ⟨y0, hy0'⟩ ⟨yt, hyt⟩ false (by rw [hW.alike.assignable]; exact hno), if_neg (by decide)]
          exact hq Q E d acts⟩
end MZC
end
section
/-! THROWING: 'throw new E("..")' as one step -/
section MZT
variable {p : Program} {l : Launch} {e : Env} {R : Room} {s : State} {m : MethodId} {args : Array Value} {below : List Frame} {meth : Method} {c : Code} {T : State} {locs : List Loc} {cells slots : Nat}
/-- the invocation, begun again in the state that it stands in: nothing is written yet -/
def mz_s (s T : State) (m : MethodId) (args : Array Value) (below : List Frame) : State := (T.setVm s.vm).setFrames (.invoking m args :: below)
theorem mz_again (X : Stand p l e R s m args below meth c T locs cells slots) {k n : Nat} (hk : cells + k ≤ R.cells) (hn : slots + n ≤ R.slots) : Stand p l e { frames := R.frames, cells := k, slots := n, locals := R.locals } (mz_s s T m args below) m args below meth c T [] 0 0 := by
  have htop : (T.setVm s.vm).topJava?.isSome := X.here.top
  have hF : (mz_s s T m args below).frames = .invoking m args :: below := State.frames_setFrames _ (State.cur_lt_of_top htop)
  obtain ⟨g₀, hg0⟩ := Option.isSome_iff_exists.mp htop
  obtain ⟨r, hr⟩ := State.topJava?_eq_some.mp hg0
  have hlim : e.platform.stackLimits (T.setVm s.vm).me = e.platform.stackLimits s.me := X.limits
  have hbyt : (T.setVm s.vm).me.stackBytes = s.me.stackBytes := X.bytes
  have h0 : ((T.heap.toList.drop T.heap.size).map (·.slots.size)).sum = 0 := by rw [List.drop_eq_nil_of_le (Nat.le_of_eq Array.length_toList)]; rfl
  refine ⟨X.admits, X.cas, X.clock, hF, ?_, X.hears, X.method, X.code, X.here, X.tail, X.warmed, ?_, ?_, ?_, Nat.le_refl _, Nat.le_refl _, ?_, ?_, fun a c9 h9 => ⟨c9, h9, rfl, rfl, fun _ _ => rfl⟩⟩
  · have hroom := X.room
    have hU : (mz_s s T m args below).localsInUse = s.localsInUse := by
      rw [State.localsInUse_invoking hF (meth := meth) (c := c) X.method X.code, State.localsInUse_invoking X.frames X.method X.code]
    have q1 := X.heapSize
    have q2 := X.used
    simp only [State.hasRoom, Bool.and_eq_true, decide_eq_true_eq] at hroom ⊢
    obtain ⟨⟨⟨⟨h1, h2, h3, h4, h5, h6⟩, h7⟩, h8⟩, h9⟩ := hroom
    rw [X.frames, List.length_cons] at h2 h3
    have e1 : (mz_s s T m args below).me.stackBytes = s.me.stackBytes := by unfold mz_s; rw [State.stackBytes_setFrames]; exact hbyt
    have e2 : e.platform.stackLimits (mz_s s T m args below).me = e.platform.stackLimits s.me := by unfold mz_s; rw [State.stackLimits_setFrames]; exact hlim
    simp only [hF, hU, List.length_cons, e1, e2]
    refine ⟨⟨⟨⟨by omega, by omega, by omega, by omega, by omega, h6⟩, ?_⟩, ?_⟩, X.book⟩
    · show T.heap.size + k ≤ e.platform.maxCells
      omega
    · show T.slotsUsed + n ≤ e.platform.maxSlots
      omega
  · unfold mz_s; rw [State.stackLimits_setFrames]; rfl
  · unfold mz_s; rw [State.stackBytes_setFrames]; rfl
  · obtain ⟨t, ht, -⟩ := State.frames_cons hr
    show T.setVm s.vm = { (mz_s s T m args below).setFrames (T.setVm s.vm).frames with heap := T.heap, slotsUsed := T.slotsUsed }
    unfold mz_s
    rw [State.setFrames_setFrames, State.setFrames_self ht]
    rfl
  · show T.slotsUsed = T.slotsUsed + ((T.heap.toList.drop T.heap.size).map (·.slots.size)).sum
    rw [h0]; rfl
  · show ((T.heap.toList.drop T.heap.size).map (·.slots.size)).sum ≤ 0
    rw [h0]; exact Nat.le_refl _
/-- what a frame condition without old slots says of the old cells -/
theorem mz_old {U : State} {k n : Nat} (h : s.sameButNew ({ U with vm := s.vm } : State) [] k n) : s.heap.size ≤ U.heap.size ∧ ∀ q : Nat, q < s.heap.size → U.heap[q]? = s.heap[q]? := by
  obtain ⟨-, h2, -, -, -, h6⟩ := h
  refine ⟨h2, fun q hq => ?_⟩
  obtain ⟨c9, e1, e2, e3, e4⟩ := h6 q _ (Array.getElem?_eq_getElem hq)
  have hs : c9.slots = (s.heap[q]).slots := Array.ext_getElem? fun i => e4 i (fun hm => by cases hm)
  rw [hs] at e2
  have e5 : U.heap[q]? = some c9 := e1
  rw [e5, e2, Array.getElem?_eq_getElem hq]
/-- the words of a throw that speak of the heap: two statics of Throwable that hold references or null, and where they lie -/
def mz_hw : List Cond := [.isRef (.static Bundle.tN "UNASSIGNED_STACK" Bundle.steD), .isRef (.static Bundle.tN "SUPPRESSED_SENTINEL" Bundle.listD), .laysStatic Bundle.tN "UNASSIGNED_STACK" Bundle.steD, .laysStatic Bundle.tN "SUPPRESSED_SENTINEL" Bundle.listD]
theorem mz_throw (hexec : p.tables.exec = Jvm.exec) (htr : l.stackTraces = false) {own cls text : String} {names : List String} {ik is ic sa pc : Nat} (hown : s.vm.findClass own = some m.cls) (hcls : Bundle.fit cls = true) (hnames : ∀ n ∈ names, Bundle.fit n = true)
    (X : Stand p l e R s m args below meth c T locs cells slots)
    (hk : (Cond.classLink own ik cls).before args (mz_s s T m args below) = true) (hini : (Cond.initialized cls).before args (mz_s s T m args below) = true) (hst : (Cond.stringRef own is text).before args (mz_s s T m args below) = true) (hsa : (Term.string own is).eval args (mz_s s T m args below) none [] (mz_s s T m args below) = some (.ref sa))
    (hat : ∀ w ∈ Bundle.ownAtoms own ic cls names, w.before args (mz_s s T m args below) = true) {ls : Array Slot} (hsize : ls.size = c.maxLocals)
    (d0 : decode c.code pc = .ok (.new ik, 3)) (d3 : decode c.code (pc + 3) = .ok (.dup, 1)) (d4 : decode c.code (pc + 4) = .ok (.ldc is, 2)) (d6 : decode c.code (pc + 6) = .ok (.invokespecial ic, 3)) (d9 : decode c.code (pc + 9) = .ok (.athrow, 1))
    (hout : ∀ x ∈ c.exceptionTable.toList, covers x (pc + 9) = false) (hlocks : meth.locks = false) (hRf : names.length + 3 < R.frames) (hRl : 13 * (names.length + 1) + 43 ≤ R.locals) (hRc : cells + 1 ≤ R.cells) (hRs : slots + 6 ≤ R.slots) :
    ∃ (U : State) (q : Addr) (ce : Cell), Steps p.tables e below (T.setTop (F0 m pc ls [])) U ∧ U.status = .running ∧ Ended U below (.threw q) ∧ s.WarmedH U.vm ∧ s.sameButNew ({ U with vm := s.vm } : State) locs (cells + 1) (slots + 6) ∧
      U.heap[q]? = some ce ∧ ce.vm = .none ∧ s.vm.findClass cls = some ce.cls ∧ T.heap.size ≤ U.heap.size ∧ ∀ z : Nat, z < T.heap.size → U.heap[z]? = T.heap[z]? := by
  have htr' : e.platform.stackTraces = false := (show e.platform.stackTraces = l.stackTraces by rw [X.admits.platform]).trans htr
  have Y := mz_again X (k := 1) (n := 6) hRc hRs
  have hvm : (mz_s s T m args below).vm = s.vm := rfl
  have hhp : (mz_s s T m args below).heap = T.heap := rfl
  have hown' : (mz_s s T m args below).vm.findClass own = some m.cls := hown
  have hins : (Cond.instantiable cls 6).before args (mz_s s T m args below) = true := hat _ (by simp [Bundle.ownAtoms])
  obtain ⟨vm₁, cX, kX, hfX, hkX, -, -, X₁, st1⟩ := Y.newCold hexec (own := own) (C := cls) (index := ik) (n := 6) hown' hk hins hini (g := F0 m pc ls []) rfl d0 (Nat.le_refl _) (Nat.le_refl _)
  generalize hT1 : (T.setVm vm₁).pushCell { cls := cX, slots := kX.instanceTypes.map defaultValue, vm := .none } = T1 at X₁ st1
  have hcellA : T1.heap[T.heap.size]? = some (freshCell cX kX) := by rw [← hT1]; exact State.heap_pushCell_size _ _
  obtain ⟨U, hsteps, hrun, hend, hW, hsame, ce, hce, hO⟩ := X₁.ctorThrowS hexec htr' (own := own) (cls := cls) (names := names) (ic := ic) hown' hcls hnames hat (fun x hx => nomatch hx) hfX hkX hcellA (Nat.le_of_eq (by rw [hhp])) (msg := .ref sa) rfl
    (g := { method := m, pc := pc + 6, locals := ls, stack := [.ref sa, .ref T.heap.size, .ref T.heap.size], locked := none }) rfl hsize rfl rfl (rest := []) rfl d6 d9 hout hRf (by show 2 * 0 + (1 + 0) + _ ≤ R.locals; omega) hlocks
  obtain ⟨f1, f2⟩ := mz_old hsame
  have hall : s.sameButNew ({ U with vm := s.vm } : State) locs (cells + 1) (slots + 6) := by
    obtain ⟨e1, e2⟩ := hsame
    unfold mz_s at e1
    rw [State.setFrames_setFrames] at e1
    have h2 : (T.setVm s.vm).sameButNew ({ U with vm := s.vm } : State) [] (0 + 1) (0 + 6) := ⟨e1, e2⟩
    have h3 := X.same.trans h2
    rw [List.append_nil] at h3
    exact h3.mono (Nat.le_refl _) (Nat.le_refl _)
  refine ⟨U, T.heap.size, ce, ?_, hrun, hend, hW, hall, hce, hO.vm, hO.cls, f1, f2⟩
  refine st1 _ ?_
  show Steps p.tables e below (T1.setTop { method := m, pc := pc + 3, locals := ls, stack := [.ref T.heap.size], locked := none }) _
  jvm_step X₁.here [X₁.here.top, hexec, d3, Value.category]
  exact X₁.ldcString hexec (own := own) (text := text) (index := is) (a := sa) hown' hst hsa (g := { method := m, pc := pc + 4, locals := ls, stack := [.ref T.heap.size, .ref T.heap.size], locked := none }) rfl d4 _ hsteps
end MZT
end
section
/-! CALLS OF THE SMALL MACHINE -/
/-- the words ride along, and so does what stands outside -/
def mv_Ok (g : mv_Gp) : Prop := (∀ w ∈ g.G, ∀ (a a' : Array Value) (s U : State), s.WarmedH U.vm → w.before a s = true → w.before a' U = true) ∧
  (∀ sd A (s U : State) H, s.WarmedH U.vm → g.Ph sd A s H → g.Ph sd A U H) ∧ (∀ sd A s H H1, g.Ph sd A s H → (∀ a : Nat, a < H.size → ¬ A a → H1[a]? = H[a]?) → g.Ph sd A s H1) ∧ (∀ sd A B s H, g.Ph sd A s H → (∀ q, B q → A q) → g.Ph sd B s H)
theorem mv_blind {g : mv_Gp} (hO : mv_Ok g) {D : va_G} {cA : Nat → ClassId} {sd : Nat → Option Nat} {as : List Nat} {h : mv_H} {vs : List Value} {sz : Nat} : FrameBlind (mv_Pc g D cA sd as h vs sz) := by
  intro a U f mk q
  obtain ⟨q0, q1, q2, q3, q4, q5, q6, q7⟩ := q
  have hW : U.WarmedH (U.calling f mk a).vm := State.WarmedH.refl U
  exact ⟨q0, q1, q2, fun w hw => hO.1 w hw _ _ _ _ hW (q3 w hw), va_K.moved (u := U) (U := U.calling f mk a) (Vm.Alike.refl U.vm) q4, hO.2.1 _ _ _ _ _ hW q5, q6, q7⟩
theorem mv_sub {g : mv_Gp} {y : Nat} {x : mv_Cx} {as : List Nat} {h : mv_H} {H : Heap} {locs : List Loc} (hX : mv_X g y x) (hw : mv_Wr g x as h H locs) : ∀ q, va_A (mv_w as x.sd x.cA h.1) H.size q → x.A q := by
  intro q hq
  rcases hq with ⟨k, e, hk⟩ | hq
  · exact hw.2.2.2.1.2 k (q, e) hk
  · exact hX.2.1.2.2.1 q (Nat.le_trans hw.2.2.2.2.1 hq)
/-- a callee's start, out of the caller's world -/
theorem mv_pre {g : mv_Gp} (hO : mv_Ok g) {y : Nat} {x : mv_Cx} {as : List Nat} {h : mv_H} {H : Heap} {locs : List Loc} (hX : mv_X g y x) (hw : mv_Wr g x as h H locs) (vs : List Value) : ∀ U : State, U.heap = H → x.s.WarmedH U.vm → mv_Pc g x.D x.cA x.sd as h vs H.size (vs.map (mv_v as x.sd)).toArray U := by
  intro U hU hW
  have hP := hO.2.2.2 _ _ _ _ _ (hO.2.2.1 _ _ _ _ _ hX.2.1.2.1 hw.2.2.2.2.2.1) (mv_sub hX hw)
  exact ⟨rfl, by rw [hU], hw.1, fun w hw' => hO.1 w hw' _ _ _ _ hW (hX.1.2.2.2.2.2.2.2.2.2 w hw'), va_K.moved hW.alike hX.2.1.1, by rw [hU]; exact hO.2.1 _ _ _ _ _ hW hP, by rw [hU]; exact hw.2.2.1, hw.2.2.2.1.weaken (fun _ _ _ _ => trivial)⟩
theorem mv_ok_use {as as2 : List Nat} {h h2 : mv_H} {f : mv_F} {sd : Nat → Option Nat} {ls : Array Slot} {nL : Nat} (hp : as <+: as2) (h1 : as.length = h.1.length) (h3 : as2.length = h2.1.length) (hk : mv_ok h h2 f = true) (hl : mv_L as sd ls nL f.2.1) : mv_L as2 sd ls nL f.2.1 ∧ f.2.2.map (mv_v as2 sd) = f.2.2.map (mv_v as sd) := by
  obtain ⟨t, ht⟩ := hp
  simp only [mv_ok, Bool.or_eq_true, Bool.and_eq_true] at hk
  rcases hk with hk | ⟨k1, k2⟩
  · have hk := Nat.eq_of_beq_eq_true hk
    have : t = [] := by
      rw [← ht, List.length_append] at h3
      exact List.eq_nil_of_length_eq_zero (by omega)
    subst this
    rw [List.append_nil] at ht
    subst ht
    exact ⟨hl, rfl⟩
  · rw [← h1] at k1 k2
    rw [← ht]
    exact ⟨hl.app k1, mv_s_app k2⟩
/-- what is thrown over pc, and caught: the row of the table, its class, the store that its handler begins with -/
abbrev mv_ent (t : Nat × Nat × Nat × Nat) : ExceptionTableEntry := ⟨t.1, t.2.1, t.2.2.1, t.2.2.2⟩
def mv_Hd (g : mv_Gp) (y pc k pc' i : Nat) : Prop := ∃ (pre suf : List (Nat × Nat × Nat × Nat)) (ent : Nat × Nat × Nat × Nat) (name : String), (g.M y).hh = pre ++ ent :: suf ∧
  (∀ z ∈ pre, covers (mv_ent z) pc = false ∨ (z.2.2.2 ≠ 0 ∧ ∃ nm : String, Cond.classLink (g.M y).nm.cls z.2.2.2 nm ∈ g.G ∧ ∀ sd A U H, g.Ph sd A U H → va_Nc (g.exn k) nm U)) ∧ covers (mv_ent ent) pc = true ∧ ent.2.2.2 ≠ 0 ∧
  Cond.classLink (g.M y).nm.cls ent.2.2.2 name ∈ g.G ∧ Cond.castable (g.exn k) name ∈ g.G ∧ i < (g.M y).nL ∧
  ((∃ j : Fin 4, (j : Nat) = i ∧ decode (g.M y).cc ent.2.2.1 = .ok (.astore_n j, 1) ∧ pc' = ent.2.2.1 + 1) ∨ (decode (g.M y).cc ent.2.2.1 = .ok (.astore i, 2) ∧ pc' = ent.2.2.1 + 2))
def mv_Hn (g : mv_Gp) (y pc : Nat) : Prop := (∀ k pc' i, g.X y pc k = some (pc', i) → mv_Hd g y pc k pc' i) ∧ ∀ k, g.X y pc k = none → ∀ z ∈ (g.M y).hh, covers (mv_ent z) pc = false
theorem mv_Hn.none {g : mv_Gp} {y pc : Nat} (h : (g.M y).hh = []) (hX : ∀ k, g.X y pc k = none) : mv_Hn g y pc := by
  refine ⟨fun k pc' i e => ?_, fun k _ z hz => ?_⟩
  · rw [hX k] at e; cases e
  · rw [h] at hz; cases hz
theorem mv_tab {c : Code} {hh : List (Nat × Nat × Nat × Nat)} (h : c.exceptionTable.toList.map (fun h => (h.startPc, h.endPc, h.handlerPc, h.catchType)) = hh) : c.exceptionTable.toList = hh.map mv_ent := by
  rw [← h, List.map_map]
  conv => lhs; rw [← List.map_id c.exceptionTable.toList]
  rfl
theorem mv_L.drop1 {as : List Nat} {sd : Nat → Option Nat} {ls ls' : Array Slot} {nL i : Nat} {q : Nat} {L : List (Option Value)} (hl : mv_L as sd ls nL L)
    (h : lv_has ls' nL ((i, Value.ref q) :: (mv_al as sd L).filter (fun z => !(z.1 == i) && !(z.1 + 1 == i && z.2.category == 2)))) : mv_L as sd ls' nL ((mv_cl L i).set i none) := by
  refine ⟨by rw [List.length_set, mv_cl_len]; exact hl.1, h.1, h.2.1, fun j w hj => ?_⟩
  by_cases hij : i = j
  · subst hij
    by_cases hlt : i < (mv_cl L i).length
    · rw [List.getElem?_set_self hlt] at hj; cases hj
    · rw [List.getElem?_eq_none (by simpa using hlt)] at hj; cases hj
  · rw [List.getElem?_set_ne hij] at hj
    obtain ⟨h1, h2⟩ := mv_cl_at hj
    refine h.2.2 (j, mv_v as sd w) (List.mem_cons_of_mem _ (List.mem_filter.mpr ⟨mv_al_mem h1, ?_⟩))
    rw [mv_v_cat]
    have a1 : (j == i) = false := by simpa using fun q => hij q.symm
    have a2 : (j + 1 == i && w.category == 2) = false := by
      cases hb : (j + 1 == i && w.category == 2) with
      | false => rfl
      | true => simp at hb; exact absurd hb h2
    rw [a1, a2]; rfl
/-- the invoking instruction's own step -/
def mv_Inv (x : mv_Cx) (pc : Nat) (ls : Array Slot) (st rest : List Value) (zn : MethodName) (a : Array Value) (H : Heap) (locs : List Loc) (k n : Nat) : Prop :=
  ∀ T : State, T.heap = H → Stand x.p x.l x.e x.R x.s x.m x.args x.below x.meth x.c T locs k n → ∃ (vm₁ : Vm) (mk : MethodId), x.s.WarmedH vm₁ ∧ Stand x.p x.l x.e x.R x.s x.m x.args x.below x.meth x.c (T.setVm vm₁) locs k n ∧ (T.setVm vm₁).methodNamed? zn = some mk ∧
    ∀ target, Steps x.p.tables x.e x.below (doInvoke x.e ((T.setVm vm₁).setTop (F0 x.m pc ls rest)) [] mk a).1 target → Steps x.p.tables x.e x.below (T.setTop (F0 x.m pc ls st)) target
theorem mv_cat_map (as : List Nat) (sd : Nat → Option Nat) : ∀ st : List Value, ((st.map (mv_v as sd)).map fun v => v.category).sum = mv_cat st
  | [] => rfl
  | v :: r => by simp only [List.map_cons, List.sum_cons, mv_cat, mv_v_cat, mv_cat_map as sd r]
theorem mv_code_at {Y : mv_Y} {a : Array Value} {U : State} {mk : MethodId} (hn : U.methodNamed? Y.nm = some mk) (h : (mv_code Y).before a U = true) : ∃ methY cY, U.vm.method? mk = some methY ∧ methY.code = some cY ∧ cY.maxLocals = Y.nL := by
  unfold mv_code at h
  split at h
  · obtain ⟨meth, c, h1, h2, -, h4, -⟩ := Cond.code_spec hn h
    exact ⟨meth, c, h1, h2, h4⟩
  · obtain ⟨m9, meth, c, hn9, h1, h2, -, h4, -⟩ := Cond.codeWith_spec h
    cases hn.symm.trans hn9
    exact ⟨meth, c, h1, h2, h4⟩
set_option maxHeartbeats 2000000 in
theorem mv_after {g : mv_Gp} (hO : mv_Ok g) {y pc z : Nat} {x : mv_Cx} (hX : mv_X g y x) (hH : mv_Hn g y pc) {vs rest st : List Value} {h : mv_H} {L : List (Option Value)} {as : List Nat} {H : Heap} {locs : List Loc} {ls : Array Slot} {ig : Instr}
    (c1 : x.c0 ≤ h.2.1) (c2 : x.s0 ≤ h.2.2) (hw : mv_Wr g x as h H locs) (hl : mv_L as x.sd ls (g.M y).nL L) (hcat : mv_cat rest ≤ 8) (hz1 : mv_code (g.M z) ∈ g.G) (hz2 : Cond.initialized (g.M z).nm.cls ∈ g.G)
    (hfr : (g.M z).fr + 1 ≤ (g.M y).fr) (hlo : 8 + ((g.M z).nL + 11) + (g.M z).lo ≤ (g.M y).lo) (hd : decode (g.M y).cc pc = .ok (ig, 3))
    (hinv : mv_Inv x pc ls st (rest.map (mv_v as x.sd)) (g.M z).nm (vs.map (mv_v as x.sd)).toArray H locs (h.2.1 - x.c0) (h.2.2 - x.s0)) (hq : mv_Cq g y x pc z vs (pc + 3, L, rest) h) :
    mv_W x H locs (h.2.1 - x.c0) (h.2.2 - x.s0) (F0 x.m pc ls st) := by
  obtain ⟨o2, h2, b1, b2, b3, b4, hM, k1, k2⟩ := hq
  intro T hT X
  obtain ⟨vm₁, mk, hW₁, X₁, hn, hst⟩ := hinv T hT X
  have hts := hX.1.2.2.2.2.2.2.2.2.2
  have r1 := hX.2.2.1
  have r2 := hX.2.2.2.1
  have r3 := hX.2.2.2.2.1
  have r4 := hX.2.2.2.2.2.1
  have hword : ∀ (a' : Array Value), (mv_code (g.M z)).before a' (T.setVm vm₁) = true := fun a' => hO.1 _ hz1 _ _ _ _ hW₁ (hts _ hz1)
  have hini : ∀ (a' : Array Value), (Cond.initialized (g.M z).nm.cls).before a' (T.setVm vm₁) = true := fun a' => hO.1 _ hz2 _ _ _ _ hW₁ (hts _ hz2)
  have hdc : decode x.c.code pc = .ok (ig, 3) := by rw [hX.1.2.1]; exact hd
  obtain ⟨oc, t, L9, hE, hL9, X2, hsteps⟩ := mz_call (maxL := (g.M z).nL) (hM x.D x.cA x.sd as H.size) (mv_blind hO) X₁ (f := F0 x.m pc ls (rest.map (mv_v as x.sd))) rfl (by rw [hX.1.2.2.1]; exact hl.2.1) hdc hn (hword _) (mv_code_at hn (hword (vs.map (mv_v as x.sd)).toArray)) (hini _)
    (by show (g.M z).fr + 1 ≤ _; omega) (by show 2 * 0 + ((rest.map (mv_v as x.sd)).map fun v => v.category).sum + _ + (g.M z).lo ≤ _; rw [mv_cat_map]; omega) (by show _ + (h2.2.1 - h.2.1) ≤ _; omega) (by show _ + (h2.2.2 - h.2.2) ≤ _; omega) (mv_pre hO hX hw vs (T.setVm vm₁) hT hW₁)
  have e1 : h.2.1 - x.c0 + (h2.2.1 - h.2.1) = h2.2.1 - x.c0 := by omega
  have e2 : h.2.2 - x.s0 + (h2.2.2 - h.2.2) = h2.2.2 - x.s0 := by omega
  have hA1 := mv_sub hX hw
  have world : ∀ as2, mv_Nd g x.D x.cA x.sd (va_A (mv_w as x.sd x.cA h.1) H.size) as h2 ((T.setVm vm₁).calling (F0 x.m pc ls (rest.map (mv_v as x.sd))) mk (vs.map (mv_v as x.sd)).toArray) t as2 → mv_Wr g x as2 h2 t.heap (locs ++ L9) := by
    intro as2 hnd
    obtain ⟨n1, n2, n3, n4, n5, n6⟩ := hnd
    have n5' : H.size ≤ t.heap.size := by rw [← hT]; exact n5
    have n6' : ∀ q : Nat, q < H.size → ¬ va_A (mv_w as x.sd x.cA h.1) H.size q → t.heap[q]? = H[q]? := by
      intro q h1 h3
      have k9 : t.heap[q]? = T.heap[q]? := n6 q (show q < T.heap.size by rw [hT]; exact h1) h3
      rw [k9, hT]
    refine ⟨n2, hw.2.1.trans n1, n3, n4.weaken (fun _ q _ hq => hA1 _ hq), Nat.le_trans hw.2.2.2.2.1 n5', fun q h1 h3 => ?_, fun q hq => ?_⟩
    · rw [n6' q (Nat.lt_of_lt_of_le h1 hw.2.2.2.2.1) (fun hq => h3 (hA1 q hq))]
      exact hw.2.2.2.2.2.1 q h1 h3
    · rcases List.mem_append.mp hq with hq | hq
      · exact hw.2.2.2.2.2.2 q hq
      · exact hA1 _ (hL9 q hq)
  rw [show (mv_rm (g.M z) h h2).cells = h2.2.1 - h.2.1 from rfl, show (mv_rm (g.M z) h h2).slots = h2.2.2 - h.2.2 from rfl, e1, e2] at X2
  rcases hE with ⟨v, as2, ho, hv, hnd⟩ | ⟨k, as2, q, ce, ho, hoc, hce, hcv, hcl, hnd⟩
  · subst hv
    dsimp only at hsteps
    obtain ⟨hok, hG⟩ := k1 v ho
    obtain ⟨hl2, hs2⟩ := mv_ok_use hnd.1 hw.1 hnd.2.1 hok hl
    have wr2 := world as2 hnd
    obtain ⟨tt, a1, bb⟩ := hG (Nat.le_trans c1 b1) (Nat.le_trans c2 b2) b3 b4 as2 t.heap (locs ++ L9) ls wr2 hl2 (mz_U (T.setVm vm₁) t) rfl X2
    have es : (v.toList ++ rest).map (mv_v as2 x.sd) = (v.map (mv_v as2 x.sd)).toList ++ rest.map (mv_v as x.sd) := by
      rw [List.map_append, hs2]
      cases v <;> rfl
    dsimp only at a1
    rw [es] at a1
    exact ⟨tt, hst _ (hsteps.trans a1), bb⟩
  · subst hoc
    dsimp only at hsteps
    have wr2 := world as2 hnd
    have hcl' : x.s.vm.findClass (g.exn k) = some ce.cls := by
      have h9 : vm₁.findClass (g.exn k) = some ce.cls := hcl
      rw [hW₁.alike.findClass] at h9
      exact h9
    rcases k2 k ho with ⟨hXn, ho2, hh2⟩ | ⟨pc', i, hXk, hok, hG⟩
    · have hno := hH.2 k hXn
      obtain ⟨st1, hrun, hend, hWW, hsm⟩ := X2.leaveThrown q (g := F0 x.m pc ls (rest.map (mv_v as x.sd))) rfl rfl rfl (by
        rw [mv_tab hX.1.2.2.2.2.2.2.2.1]
        intro z9 hz9
        obtain ⟨u, hu, rfl⟩ := List.mem_map.mp hz9
        exact hno u hu) hX.1.2.2.2.2.1
      refine ⟨_, hst _ (hsteps.trans st1), .threw q, hrun, hend, ?_, hWW, locs ++ L9, ?_, fun z9 hz9 => hX.2.1.2.2.2 _ (wr2.2.2.2.2.2.2 z9 hz9)⟩
      · exact hX.2.2.2.2.2.2.2 k as2 _ q ce ho2 (show t.heap[q]? = some ce from hce) hcv hcl' (by rw [hh2]; exact mv_nd wr2 rfl) hWW.alike
      · rw [hh2]; exact hsm
    · obtain ⟨hl2, hs2⟩ := mv_ok_use hnd.1 hw.1 hnd.2.1 hok hl
      obtain ⟨pre, suf, ent, name, hsplit, hpre, hcov, hct, hw1, hw2, hi, hast⟩ := hH.1 k pc' i hXk
      have hpl : x.e.platform.magicAccessors = ({} : Platform).magicAccessors := by rw [X.admits.platform]
      obtain ⟨c3, c4, hc3, hc4, hasg⟩ := Cond.castable_spec (hts _ hw2)
      cases Option.some.inj (hc3.symm.trans hcl')
      obtain ⟨c5, hc5, hcl5⟩ := Cond.classLink_spec hX.1.2.2.2.1 (hts _ hw1) x.e.platform hpl
      cases Option.some.inj (hc4.symm.trans hc5)
      obtain ⟨vm2, hW2, hgo⟩ := mz_search (e := x.e) (f := F0 x.m pc ls (rest.map (mv_v as x.sd))) (a := q) (s₀ := x.s) (cell := ce) (fun z9 => by rw [hcv]; exact fun e9 => by cases e9) (by obtain ⟨k9, h9, -⟩ := Vm.findClass_spec hcl'; exact ⟨k9, h9⟩) (mv_ent ent) (suf.map mv_ent) hcov hct hcl5 hasg
        (pre.map mv_ent) (((mz_U (T.setVm vm₁) t).setTop (F0 x.m pc ls (rest.map (mv_v as x.sd)))).pushFrame (.throwing q)) X2.warmed hce (fun y9 hy9 => by
          obtain ⟨u, hu, rfl⟩ := List.mem_map.mp hy9
          rcases hpre u hu with h9 | ⟨h9, nm, hl9, hn9⟩
          · exact Or.inl h9
          · obtain ⟨c6, hc6, hcl6⟩ := Cond.classLink_spec hX.1.2.2.2.1 (hts _ hl9) x.e.platform hpl
            obtain ⟨a8, b8, q1, q2, q3⟩ := hn9 _ _ _ _ hX.2.1.2.1
            cases Option.some.inj (q1.symm.trans hcl')
            cases Option.some.inj (q2.symm.trans hc6)
            exact Or.inr ⟨h9, _, hcl6, q3⟩)
      have hF : mz_F x.e (((mz_U (T.setVm vm₁) t).setTop (F0 x.m pc ls (rest.map (mv_v as x.sd)))).pushFrame (.throwing q)) (F0 x.m pc ls (rest.map (mv_v as x.sd))) q (.found (mv_ent ent).handlerPc) vm2 := by
        intro Q E d acts
        rw [W.findHandler_eq (meth := x.meth) (code := x.c) X2.method' X2.code, mv_tab hX.1.2.2.2.2.2.2.2.1, hsplit, List.map_append, List.map_cons]
        exact hgo Q E d acts
      have X3 := X2.noted hW2
      have hW3 : mv_W x t.heap (locs ++ L9) (h2.2.1 - x.c0) (h2.2.2 - x.s0) (F0 x.m ent.2.2.1 ls [.ref q]) := by
        rcases hast with ⟨j, hj, hdj, rfl⟩ | ⟨hdj, rfl⟩
        · exact lv_astore_n hX.1.1 hX.1.2.1 hdj hj hl2.has hi rfl (fun ls' h' => hG (Nat.le_trans c1 b1) (Nat.le_trans c2 b2) b3 b4 as2 t.heap (locs ++ L9) ls' wr2 (hl2.drop1 h'))
        · exact lv_astore hX.1.1 hX.1.2.1 hdj hl2.has hi rfl (fun ls' h' => hG (Nat.le_trans c1 b1) (Nat.le_trans c2 b2) b3 b4 as2 t.heap (locs ++ L9) ls' wr2 (hl2.drop1 h'))
      obtain ⟨tt, a1, bb⟩ := hW3 ((mz_U (T.setVm vm₁) t).setVm vm2) rfl X3
      exact ⟨tt, hst _ (hsteps.trans (mz_caught (f := F0 x.m pc ls (rest.map (mv_v as x.sd))) X2.here hF a1)), bb⟩
end
section
/-! THE INVOKING INSTRUCTIONS -/
theorem mv_split {st : List Value} {n : Nat} {vs : List Value} (h : (st.take n).reverse = vs) : st = vs.reverse ++ st.drop n := by
  rw [← h, List.reverse_reverse, List.take_append_drop]
theorem mv_map_rev (as : List Nat) (sd : Nat → Option Nat) (vs : List Value) : (vs.reverse).map (mv_v as sd) = (vs.map (mv_v as sd)).reverse := List.map_reverse ..
/-- what a call of z needs beside its link -/
def mv_Cl (g : mv_Gp) (y z : Nat) : Prop := mv_code (g.M z) ∈ g.G ∧ Cond.initialized (g.M z).nm.cls ∈ g.G ∧ (g.M z).fr + 1 ≤ (g.M y).fr ∧ 8 + ((g.M z).nL + 11) + (g.M z).lo ≤ (g.M y).lo ∧ ((g.M z).nm.cls ≠ "java/lang/invoke/MethodHandle" ∧ (g.M z).nm.cls ≠ "java/lang/invoke/VarHandle")
theorem mv_sig {Y : mv_Y} {a : Array Value} {U : State} (h : (mv_code Y).before a U = true) : ∃ mk meth, U.methodNamed? Y.nm = some mk ∧ U.vm.method? mk = some meth ∧ parseMethodDescriptor Y.nm.desc = some meth.sig := by
  unfold mv_code at h
  split at h
  · obtain ⟨mk, hn⟩ := Cond.code_named h
    obtain ⟨meth, c, h1, -, -, -, -, -, -, h5⟩ := Cond.code_spec hn h
    exact ⟨mk, meth, hn, h1, h5⟩
  · obtain ⟨m9, meth, c, hn9, h1, -, -, -, -, -, -, h5⟩ := Cond.codeWith_spec h
    exact ⟨m9, meth, hn9, h1, h5⟩
theorem mv_len {Y : mv_Y} {n : Nat} (hn : (parseMethodDescriptor Y.nm.desc).map (fun d => d.parameters.length) = some n) {sig : MethodDescriptor} (h : parseMethodDescriptor Y.nm.desc = some sig) : n = sig.parameters.length := by
  rw [h] at hn
  exact (Option.some.inj hn).symm
set_option maxHeartbeats 1000000 in
theorem mn_callV {g : mv_Gp} (hO : mv_Ok g) {y pc ci z n idx N : Nat} {C : String} {T0 : u_T} (hd : decode (g.M y).cc pc = .ok (.invokevirtual idx, 3)) (hc : g.cl[ci]? = some (C, T0, N)) (hH : mv_Hn g y pc) (hz : mv_Cl g y z) (hlk : Cond.methodLink (g.M y).nm.cls idx (g.M z).nm ∈ g.G) (him : Cond.instanceMethod (g.M z).nm ∈ g.G) (hse : Cond.selects C (g.M z).nm (g.M z).nm ∈ g.G)
    (hn : (parseMethodDescriptor (g.M z).nm.desc).map (fun d => d.parameters.length) = some n) : mv_Snd g y pc (mi_callV ci z (n + 1)) := by
  intro x hX L stk h r e hr c1 c2 c3 c4 as H locs ls hw hl
  unfold mi_callV at e
  dsimp only at e
  split at e
  · rename_i q vs hvs
    split at e
    · rename_i cj fs hq
      cases hcj : (Nat.beq cj ci && Nat.ble (n + 1) stk.length && Nat.ble (mv_cat (stk.drop (n + 1))) 8) with
      | false => rw [hcj] at e; cases e
      | true =>
        rw [hcj, cond_true] at e
        cases e
        simp only [Bool.and_eq_true] at hcj
        obtain ⟨⟨hj, hlen⟩, hcat⟩ := hcj
        have hj := Nat.eq_of_beq_eq_true hj
        subst hj
        have hts := hX.1.2.2.2.2.2.2.2.2.2
        have hst := mv_split hvs
        have hvl : vs.length = n := by
          have h9 := congrArg List.length hvs
          rw [List.length_reverse, List.length_take, List.length_cons] at h9
          have := Nat.le_of_ble_eq_true hlen
          omega
        refine mv_after hO hX hH c1 c2 hw hl (Nat.le_of_ble_eq_true hcat) hz.1 hz.2.1 hz.2.2.1 hz.2.2.2.1 hd ?_ hr
        intro T hT X
        obtain ⟨mk, methM, hnamed, hmethM, hstM, habM⟩ := Cond.instanceMethod_spec (hts _ him)
        obtain ⟨mk9, meth9, hnamed9, hmeth9, hsigM⟩ := mv_sig (hts _ hz.1)
        cases hnamed.symm.trans hnamed9
        cases hmethM.symm.trans hmeth9
        obtain ⟨cellB, hcell, hobj, hcls⟩ := va_recv hX.2.1.1 hw.2.2.1 hc (mv_w_at hw.1 hq)
        obtain ⟨c2', r2, m2, q1, q2, q3, q4, kP, hkP, hkPi⟩ := Cond.selects_spec (hts _ hse)
        cases hcls.symm.trans q1
        cases (State.methodFound?_of_named hnamed hz.2.2.2.2).symm.trans q2
        cases hnamed.symm.trans q3
        have hselP : selectMethod x.e.platform x.s.vm cellB.cls mk = .method mk := by rw [Launch.admits_selectMethod X.admits]; exact q4
        obtain ⟨vm₁, X₁, hstep₁⟩ := X.invokevirtual hX.1.1 hX.1.2.2.2.1 (hts _ hlk) hnamed hmethM hstM hkP hkPi hz.2.2.2.2 (a := as.getD q 0) (cell := cellB) (by rw [hT]; exact hcell)
          (fun z9 h9 => by rw [h9] at hobj; cases hobj) hselP hmethM habM hkP hkPi (g := F0 x.m pc ls (stk.map (mv_v as x.sd))) rfl (argsL := vs.map (mv_v as x.sd)) (rest := (stk.drop (n + 1)).map (mv_v as x.sd)) (by rw [List.length_map, hvl]; exact mv_len hn hsigM)
          (by show stk.map (mv_v as x.sd) = _; conv => lhs; rw [hst]
              rw [List.map_append, mv_map_rev, List.map_cons, List.reverse_cons, List.append_assoc]; rfl) (by rw [hX.1.2.1]; exact hd)
        exact ⟨vm₁, mk, X₁.warmed, X₁, X₁.named hnamed, fun target h9 => hstep₁ _ fun acts => by rw [doInvoke_state]; exact h9⟩
    · cases e
  · cases e
set_option maxHeartbeats 1000000 in
theorem mn_callS {g : mv_Gp} (hO : mv_Ok g) {y pc z n idx : Nat} (hd : decode (g.M y).cc pc = .ok (.invokestatic idx, 3)) (hH : mv_Hn g y pc) (hz : mv_Cl g y z) (hlk : Cond.methodLink (g.M y).nm.cls idx (g.M z).nm ∈ g.G) (hsm : Cond.static (g.M z).nm ∈ g.G)
    (hn : (parseMethodDescriptor (g.M z).nm.desc).map (fun d => d.parameters.length) = some n) : mv_Snd g y pc (mi_callS z n) := by
  intro x hX L stk h r e hr c1 c2 c3 c4 as H locs ls hw hl
  unfold mi_callS at e
  dsimp only at e
  cases hcj : (Nat.ble n stk.length && Nat.ble (mv_cat (stk.drop n)) 8) with
  | false => rw [hcj] at e; cases e
  | true =>
    rw [hcj, cond_true] at e
    cases e
    simp only [Bool.and_eq_true] at hcj
    obtain ⟨hlen, hcat⟩ := hcj
    have hts := hX.1.2.2.2.2.2.2.2.2.2
    have hst := mv_split (st := stk) (n := n) rfl
    refine mv_after hO hX hH c1 c2 hw hl (Nat.le_of_ble_eq_true hcat) hz.1 hz.2.1 hz.2.2.1 hz.2.2.2.1 hd ?_ hr
    intro T hT X
    obtain ⟨mk, methM, hnamed, hmethM, hsigM⟩ := mv_sig (hts _ hz.1)
    have hstatic : methM.isStatic = true := Cond.static_spec hnamed hmethM (hts _ hsm)
    obtain ⟨kP, hkP, -⟩ := className_of_methodNamed hnamed
    have hinitP : kP.init = .initialized := Cond.initialized_spec (findClass_of_methodNamed hnamed) hkP (hts _ hz.2.1)
    obtain ⟨vm₁, X₁, hstep₁⟩ := X.invokestatic hX.1.1 hX.1.2.2.2.1 (hts _ hlk) hnamed hmethM hstatic hkP hinitP hz.2.2.2.2 (g := F0 x.m pc ls (stk.map (mv_v as x.sd))) rfl (argsL := ((stk.take n).reverse).map (mv_v as x.sd)) (rest := (stk.drop n).map (mv_v as x.sd))
      (by rw [List.length_map, List.length_reverse, List.length_take, Nat.min_eq_left (Nat.le_of_ble_eq_true hlen)]; exact mv_len hn hsigM)
      (by show stk.map (mv_v as x.sd) = _; conv => lhs; rw [hst]
          rw [List.map_append, mv_map_rev]) (by rw [hX.1.2.1]; exact hd)
    exact ⟨vm₁, mk, X₁.warmed, X₁, X₁.named hnamed, fun target h9 => hstep₁ _ fun acts => by rw [doInvoke_state]; exact h9⟩
set_option maxHeartbeats 1000000 in
theorem mn_callI {g : mv_Gp} (hO : mv_Ok g) {y pc z n idx : Nat} {host : String} (hd : decode (g.M y).cc pc = .ok (.invokespecial idx, 3)) (hH : mv_Hn g y pc) (hz : mv_Cl g y z) (hlk : Cond.methodLink (g.M y).nm.cls idx (g.M z).nm ∈ g.G ∨ Cond.methodLinkNest (g.M y).nm.cls idx (g.M z).nm host ∈ g.G) (him : Cond.instanceMethod (g.M z).nm ∈ g.G)
    (hh : (g.M z).hh = []) (hret : (g.M z).ret = none) (hini : (g.M z).nm.name = "<init>") (hn : (parseMethodDescriptor (g.M z).nm.desc).map (fun d => d.parameters.length) = some n) : mv_Snd g y pc (mi_callI z (n + 1)) := by
  intro x hX L stk h r e hr c1 c2 c3 c4 as H locs ls hw hl
  unfold mi_callI at e
  dsimp only at e
  split at e
  · rename_i q vs hvs
    cases hcj : (Nat.ble (n + 1) stk.length && Nat.ble (mv_cat (stk.drop (n + 1))) 8) with
    | false => rw [hcj] at e; cases e
    | true =>
      rw [hcj, cond_true] at e
      cases e
      simp only [Bool.and_eq_true] at hcj
      obtain ⟨hlen, hcat⟩ := hcj
      have hts := hX.1.2.2.2.2.2.2.2.2.2
      have hst := mv_split hvs
      have hvl : vs.length = n := by
        have h9 := congrArg List.length hvs
        rw [List.length_reverse, List.length_take, List.length_cons] at h9
        have := Nat.le_of_ble_eq_true hlen
        omega
      have hcode : (Cond.code (g.M z).nm (g.M z).cc (g.M z).nL none).before x.args x.s = true := by
        have h9 := hts _ hz.1
        unfold mv_code at h9
        rw [hh] at h9
        dsimp only at h9
        rw [hret] at h9
        exact h9
      refine mv_after hO hX hH c1 c2 hw hl (Nat.le_of_ble_eq_true hcat) hz.1 hz.2.1 hz.2.2.1 hz.2.2.2.1 hd ?_ hr
      intro T hT X
      have hpl : x.e.platform.magicAccessors = ({} : Platform).magicAccessors := by rw [X.admits.platform]
      have hstk : (F0 x.m pc ls (stk.map (mv_v as x.sd))).stack = (vs.map (mv_v as x.sd)).reverse ++ .ref (as.getD q 0) :: (stk.drop (n + 1)).map (mv_v as x.sd) := by
        show stk.map (mv_v as x.sd) = _
        conv => lhs; rw [hst]
        rw [List.map_append, mv_map_rev, List.map_cons, List.reverse_cons, List.append_assoc]; rfl
      have hlen2 : ∀ sig, parseMethodDescriptor (g.M z).nm.desc = some sig → (vs.map (mv_v as x.sd)).length = sig.parameters.length := fun sig h9 => by rw [List.length_map, hvl]; exact mv_len hn h9
      have hdc : decode x.c.code (F0 x.m pc ls (stk.map (mv_v as x.sd))).pc = .ok (.invokespecial idx, 3) := by rw [hX.1.2.1]; exact hd
      rcases hlk with hlk | hlk
      · obtain ⟨mk, methM, cM, kP, vm₁, hnamed, -, -, -, -, -, -, -, hW₁, hstep₁⟩ := Steps.initColdArgs (e := x.e) X.here hX.1.1 X.warmed hpl hX.1.2.2.2.1 hini hz.2.2.2.2 (hts _ hlk) (hts _ him) hcode (f := F0 x.m pc ls (stk.map (mv_v as x.sd))) rfl hlen2 hstk hdc
        have X₁ := X.noted hW₁
        exact ⟨vm₁, mk, hW₁, X₁, X₁.named hnamed, fun target h9 => hstep₁ _ fun acts => by rw [doInvoke_state]; exact h9⟩
      · obtain ⟨mk, methM, cM, kP, vm₁, hnamed, -, -, -, -, -, -, -, hW₁, hstep₁⟩ := Steps.initColdArgsNest (e := x.e) X.here hX.1.1 X.warmed hpl hX.1.2.2.2.1 hini hz.2.2.2.2 (hts _ hlk) (hts _ him) hcode (f := F0 x.m pc ls (stk.map (mv_v as x.sd))) rfl hlen2 hstk hdc
        have X₁ := X.noted hW₁
        exact ⟨vm₁, mk, hW₁, X₁, X₁.named hnamed, fun target h9 => hstep₁ _ fun acts => by rw [doInvoke_state]; exact h9⟩
  · cases e
end
section
/-! THE SMALL MACHINE IS SOUND: what it runs to, the machine runs to -/
def mv_Rh : mv_R → mv_H
  | .inl (_, h) => h
  | .inr (.inl (_, h)) => h
  | .inr (.inr (_, _, _, h)) => h
/-- cells and slots are only made -/
def mv_Mn (st : mv_S) : Prop := ∀ f h r, st f h = some r → h.2.1 ≤ (mv_Rh r).2.1 ∧ h.2.2 ≤ (mv_Rh r).2.2
theorem mv_mono {P : mv_P} (hm : ∀ y pc st, P.1 y pc = some st → mv_Mn st) : ∀ (n y : Nat) (f : mv_F) (h : mv_H) (r : mv_O × mv_H), mv_x P n y f h = some r → h.2.1 ≤ r.2.2.1 ∧ h.2.2 ≤ r.2.2.2 := by
  intro n
  induction n with
  | zero => intro y f h r hr; simp [mv_x] at hr
  | succ n ih =>
    intro y f h r hr
    rw [mv_x] at hr
    cases hp : P.1 y f.1 with
    | none => simp [hp] at hr
    | some s =>
      simp only [hp] at hr
      cases hs : s f h with
      | none => simp [hs] at hr
      | some q =>
        simp only [hs] at hr
        have hq := hm y f.1 s hp f h q hs
        match q, hr, hq with
        | .inl (f', h'), hr, hq =>
          have := ih _ _ _ _ hr
          dsimp only [mv_Rh] at hq
          exact ⟨Nat.le_trans hq.1 this.1, Nat.le_trans hq.2 this.2⟩
        | .inr (.inl r'), hr, hq =>
          cases hr
          exact hq
        | .inr (.inr (z, vs, f', h')), hr, hq =>
          dsimp only [mv_Rh] at hq
          dsimp only at hr
          cases hbn : Nat.ble (mv_lay vs).length (P.2.1 z) with
          | false => rw [hbn] at hr; simp at hr
          | true =>
          rw [hbn, cond_true] at hr
          cases hz : mv_x P n z (0, mv_entry (P.2.1 z) vs, []) h' with
          | none => simp [hz] at hr
          | some u =>
            rw [hz] at hr
            have hu := ih _ _ _ _ hz
            match u, hr, hu with
            | (.inl v, h''), hr, hu =>
              dsimp only at hr hu
              cases hk : mv_ok h' h'' f' with
              | false => simp [hk] at hr
              | true =>
                simp only [hk, cond_true] at hr
                have := ih _ _ _ _ hr
                exact ⟨Nat.le_trans hq.1 (Nat.le_trans hu.1 this.1), Nat.le_trans hq.2 (Nat.le_trans hu.2 this.2)⟩
            | (.inr x, h''), hr, hu =>
              dsimp only at hr hu
              cases hX : P.2.2 y f.1 x with
              | none =>
                simp only [hX] at hr
                cases hr
                exact ⟨Nat.le_trans hq.1 hu.1, Nat.le_trans hq.2 hu.2⟩
              | some pi =>
                obtain ⟨pc, i⟩ := pi
                simp only [hX] at hr
                cases hk : mv_ok h' h'' f' with
                | false => simp [hk] at hr
                | true =>
                  simp only [hk, cond_true] at hr
                  have := ih _ _ _ _ hr
                  exact ⟨Nat.le_trans hq.1 (Nat.le_trans hu.1 this.1), Nat.le_trans hq.2 (Nat.le_trans hu.2 this.2)⟩
/-- a method's locals at its start -/
theorem mv_lay_len (as : List Nat) (sd : Nat → Option Nat) : ∀ vs : List Value, (lg_sl (vs.map (mv_v as sd))).length = (mv_lay vs).length
  | [] => rfl
  | v :: r => by
    have ih := mv_lay_len as sd r
    unfold lg_sl at ih ⊢
    rw [List.map_cons, List.flatMap_cons, List.length_append, ih, mv_v_cat]
    cases v <;> simp [mv_lay, Value.category] <;> omega
theorem mv_lay_mem (as : List Nat) (sd : Nat → Option Nat) : ∀ (vs : List Value) (b i : Nat) (v : Value), (mv_lay vs)[i]? = some (some v) → (b + i, mv_v as sd v) ∈ lv_args b (vs.map (mv_v as sd))
  | [], b, i, v, h => by simp [mv_lay] at h
  | w :: r, b, 0, v, h => by
    simp only [mv_lay, List.getElem?_cons_zero, Option.some.injEq] at h
    subst h
    exact List.mem_cons_self
  | w :: r, b, i + 1, v, h => by
    simp only [List.map_cons, lv_args, mv_v_cat]
    refine List.mem_cons_of_mem _ ?_
    cases w with
    | long z =>
      simp only [mv_lay, List.getElem?_cons_succ] at h
      cases i with
      | zero => simp at h
      | succ i =>
        simp only [List.getElem?_cons_succ] at h
        have := mv_lay_mem as sd r (b + 2) i v h
        simpa [Value.category, Nat.add_assoc, Nat.add_comm, Nat.add_left_comm] using this
    | double z =>
      simp only [mv_lay, List.getElem?_cons_succ] at h
      cases i with
      | zero => simp at h
      | succ i =>
        simp only [List.getElem?_cons_succ] at h
        have := mv_lay_mem as sd r (b + 2) i v h
        simpa [Value.category, Nat.add_assoc, Nat.add_comm, Nat.add_left_comm] using this
    | int z =>
      simp only [mv_lay, List.getElem?_cons_succ] at h
      have := mv_lay_mem as sd r (b + 1) i v h
      simpa [Value.category, Nat.add_assoc, Nat.add_comm, Nat.add_left_comm] using this
    | float z =>
      simp only [mv_lay, List.getElem?_cons_succ] at h
      have := mv_lay_mem as sd r (b + 1) i v h
      simpa [Value.category, Nat.add_assoc, Nat.add_comm, Nat.add_left_comm] using this
    | null =>
      simp only [mv_lay, List.getElem?_cons_succ] at h
      have := mv_lay_mem as sd r (b + 1) i v h
      simpa [Value.category, Nat.add_assoc, Nat.add_comm, Nat.add_left_comm] using this
    | ref z =>
      simp only [mv_lay, List.getElem?_cons_succ] at h
      have := mv_lay_mem as sd r (b + 1) i v h
      simpa [Value.category, Nat.add_assoc, Nat.add_comm, Nat.add_left_comm] using this
    | retAddr z =>
      simp only [mv_lay, List.getElem?_cons_succ] at h
      have := mv_lay_mem as sd r (b + 1) i v h
      simpa [Value.category, Nat.add_assoc, Nat.add_comm, Nat.add_left_comm] using this
theorem mv_L_entry {as : List Nat} {sd : Nat → Option Nat} {vs : List Value} {n : Nat} (h : (mv_lay vs).length ≤ n) : mv_L as sd ((lg_sl (vs.map (mv_v as sd)) ++ List.replicate (n - (lg_sl (vs.map (mv_v as sd))).length) Slot.unset).toArray) n (mv_entry n vs) := by
  have hl := lv_entry (vs.map (mv_v as sd)) (n := n) (by rw [mv_lay_len]; exact h)
  refine ⟨by unfold mv_entry; rw [List.length_append, List.length_replicate]; omega, hl.1, hl.2.1, fun i v hi => ?_⟩
  unfold mv_entry at hi
  by_cases hlt : i < (mv_lay vs).length
  · rw [List.getElem?_append_left hlt] at hi
    have := mv_lay_mem as sd vs 0 i v hi
    rw [Nat.zero_add] at this
    exact hl.2.2 _ this
  · rw [List.getElem?_append_right (by omega)] at hi
    rw [List.getElem?_replicate] at hi
    split at hi <;> cases hi
/-- the tables of steps are sound -/
def mv_Pok (g : mv_Gp) (P : mv_P) : Prop := (∀ y pc st, P.1 y pc = some st → mv_Snd g y pc st ∧ mv_Mn st) ∧ (∀ z, P.2.1 z = (g.M z).nL) ∧ (∀ y pc k, P.2.2 y pc k = g.X y pc k) ∧ ∀ z, plainFor (g.M z).nm = true
theorem mv_met {g : mv_Gp} (hO : mv_Ok g) {l : Launch} (hl : l.stackTraces = false) {z : Nat} {vs : List Value} {h h2 : mv_H} {o : mv_O} (hpl : plainFor (g.M z).nm = true) (hm1 : h.2.1 ≤ h2.2.1) (hm2 : h.2.2 ≤ h2.2.2) (hlay : (mv_lay vs).length ≤ (g.M z).nL)
    (hsim : ∀ x : mv_Cx, mv_X g z x → x.l = l → x.o = o → x.hf = h2 → mv_G g (g.M z).nL x (0, mv_entry (g.M z).nL vs, []) h) : mv_Mt g l z vs h o h2 := by
  intro D cA sd as sz
  refine MetFree.of_bodySF (code := (g.M z).cc) (maxLocals := (g.M z).nL) (ret := (g.M z).ret) hpl ?_ ?_
  · intro args s m hp hn
    have hw := atoms_spec (ws := [mv_code (g.M z)]) hp _ List.mem_cons_self
    unfold mv_code at hw
    split at hw
    · obtain ⟨meth, c, h1, h2, h3, h4, h5, h6, -, -⟩ := Cond.code_spec hn hw
      exact ⟨meth, c, h1, h2, h3, h4, h5, h6⟩
    · obtain ⟨m9, meth, c, hn9, h1, h2, h3, h4, -, h5, h6, -⟩ := Cond.codeWith_spec hw
      cases hn.symm.trans hn9
      exact ⟨meth, c, h1, h2, h3, h4, h5, h6⟩
  · intro p e s m args below meth c s₁ B hml hPc _
    obtain ⟨rfl, hsz, hlen, hG, hK, hPh, hPP, hDD⟩ := hPc
    have hw := atoms_spec (ws := [mv_code (g.M z)]) B.pre _ List.mem_cons_self
    have htab : c.exceptionTable.toList.map (fun h => (h.startPc, h.endPc, h.handlerPc, h.catchType)) = (g.M z).hh := by
      have hcode := (Stand.of_body B).code
      unfold mv_code at hw
      split at hw
      · rename_i hh0
        obtain ⟨meth9, c9, h1, h2, -, -, -, -, h7, -⟩ := Cond.code_spec B.named hw
        cases Option.some.inj (h1.symm.trans B.method)
        cases Option.some.inj (h2.symm.trans hcode)
        rw [hh0, Array.isEmpty_iff.mp h7]
        rfl
      · obtain ⟨m9, meth9, c9, hn9, h1, h2, -, -, h6, -⟩ := Cond.codeWith_spec hw
        cases Option.some.inj (hn9.symm.trans B.named)
        cases Option.some.inj (h1.symm.trans B.method)
        cases Option.some.inj (h2.symm.trans hcode)
        exact h6
    have hD := hDD.self (sz := s.heap.size)
    subst hsz
    have key := hsim ((p, l, e, mv_rm (g.M z) h h2, s, m, (vs.map (mv_v as sd)).toArray, below, meth, c), (D, cA, sd, va_A (mv_w as sd cA h.1) s.heap.size, as, h.2.1, h.2.2), (mv_En g D cA sd (va_A (mv_w as sd cA h.1) s.heap.size) as o h2, va_A (mv_w as sd cA h.1) s.heap.size, o, h2))
      ⟨⟨B.exec, B.bytes, hml, findClass_of_methodNamed B.named, B.notSynchronized, B.returns, (name_of_methodNamed B.named B.method).1, htab, hl, fun w hw' => hO.1 w hw' _ _ _ _ (State.WarmedH.refl s) (hG w hw')⟩,
        ⟨hK, hPh, fun q hq => Or.inr hq, fun q hq => hq⟩,
        ⟨Nat.le_refl _, Nat.le_refl _, Nat.le_refl _, Nat.le_refl _, fun v as2 t ho hnd _ => Or.inl ⟨v, as2, ho, rfl, hnd⟩, fun k as2 t q ce ho hce hcv hcl hnd _ => Or.inr ⟨k, as2, q, ce, ho, rfl, hce, hcv, hcl, hnd⟩⟩⟩ rfl rfl rfl
      (Nat.le_refl _) (Nat.le_refl _) hm1 hm2 as s.heap [] _ ⟨hlen, List.prefix_refl _, hPP, hD, va_S.rf⟩ (mv_L_entry hlay)
    have hh0 : s₁.heap = s.heap := by rw [B.state]; rfl
    rw [lg_entry_eq]
    dsimp only [mv_Cx.c0, mv_Cx.s0] at key
    rw [Nat.sub_self, Nat.sub_self] at key
    obtain ⟨t, a1, oc, b1, b2, b3⟩ := key s₁ hh0 (Stand.of_body B)
    exact ⟨t, oc, a1, b1, b2, b3⟩
theorem mv_sim {g : mv_Gp} (hO : mv_Ok g) {P : mv_P} (hP : mv_Pok g P) {l : Launch} (hl : l.stackTraces = false) : ∀ (n y : Nat) (f : mv_F) (h : mv_H) (o : mv_O) (h' : mv_H), mv_x P n y f h = some (o, h') → ∀ x : mv_Cx, mv_X g y x → x.l = l → x.o = o → x.hf = h' → mv_G g (g.M y).nL x f h := by
  have hmn : ∀ y pc st, P.1 y pc = some st → mv_Mn st := fun y pc st e => (hP.1 y pc st e).2
  intro n
  induction n with
  | zero => intro y f h o h' hr; simp [mv_x] at hr
  | succ n ih =>
    intro y f h o h' hr x hX hxl hxo hxh
    obtain ⟨pc, L, stk⟩ := f
    rw [mv_x] at hr
    dsimp only at hr
    cases hp : P.1 y pc with
    | none => simp [hp] at hr
    | some s =>
      simp only [hp] at hr
      have hS := (hP.1 y pc s hp).1
      cases hs : s (pc, L, stk) h with
      | none => simp [hs] at hr
      | some q =>
        simp only [hs] at hr
        refine hS x hX L stk h q hs ?_
        match q, hr with
        | .inl (f1, h1), hr =>
          have hmm := mv_mono hmn _ _ _ _ _ hr
          exact ⟨by rw [hxh]; exact hmm.1, by rw [hxh]; exact hmm.2, ih y f1 h1 o h' hr x hX hxl hxo hxh⟩
        | .inr (.inl (o1, h1)), hr =>
          cases hr
          exact ⟨hxo, hxh⟩
        | .inr (.inr (z, vs, f1, h1)), hr =>
          dsimp only at hr
          cases hbn : Nat.ble (mv_lay vs).length (P.2.1 z) with
          | false => rw [hbn] at hr; simp at hr
          | true =>
          rw [hbn, cond_true] at hr
          cases hz : mv_x P n z (0, mv_entry (P.2.1 z) vs, []) h1 with
          | none => simp [hz] at hr
          | some u =>
            obtain ⟨o2, h2⟩ := u
            rw [hz] at hr
            have hmz := mv_mono hmn _ _ _ _ _ hz
            rw [hP.2.1 z] at hz hbn
            have hM : mv_Mt g x.l z vs h1 o2 h2 := by
              rw [hxl]
              exact mv_met hO hl (hP.2.2.2 z) hmz.1 hmz.2 (Nat.le_of_ble_eq_true hbn) (fun x9 hX9 hl9 ho9 hh9 => ih z _ h1 o2 h2 hz x9 hX9 hl9 ho9 hh9)
            cases o2 with
            | inl v =>
              dsimp only at hr
              cases hk : mv_ok h1 h2 f1 with
              | false => simp [hk] at hr
              | true =>
                simp only [hk, cond_true] at hr
                have hmm := mv_mono hmn _ _ _ _ _ hr
                refine ⟨.inl v, h2, hmz.1, hmz.2, by rw [hxh]; exact hmm.1, by rw [hxh]; exact hmm.2, hM, fun v9 e9 => ?_, fun k9 e9 => (by cases e9)⟩
                cases e9
                exact ⟨hk, ih y _ h2 o h' hr x hX hxl hxo hxh⟩
            | inr k =>
              dsimp only at hr
              cases hXk : P.2.2 y pc k with
              | none =>
                simp only [hXk] at hr
                obtain ⟨hr1, hr2⟩ := Prod.mk.inj (Option.some.inj hr)
                have hxh : x.hf = h2 := hxh.trans hr2.symm
                have hxo : x.o = .inr k := hxo.trans hr1.symm
                refine ⟨.inr k, h2, hmz.1, hmz.2, (by rw [hxh]; exact Nat.le_refl _), (by rw [hxh]; exact Nat.le_refl _), hM, fun v9 e9 => (by cases e9), fun k9 e9 => ?_⟩
                cases e9
                exact Or.inl ⟨by rw [← hP.2.2.1]; exact hXk, hxo, hxh⟩
              | some pi =>
                obtain ⟨pc9, i9⟩ := pi
                simp only [hXk] at hr
                cases hk : mv_ok h1 h2 f1 with
                | false => simp [hk] at hr
                | true =>
                  simp only [hk, cond_true] at hr
                  have hmm := mv_mono hmn _ _ _ _ _ hr
                  refine ⟨.inr k, h2, hmz.1, hmz.2, by rw [hxh]; exact hmm.1, by rw [hxh]; exact hmm.2, hM, fun v9 e9 => (by cases e9), fun k9 e9 => ?_⟩
                  cases e9
                  exact Or.inr ⟨pc9, i9, by rw [← hP.2.2.1]; exact hXk, hk, ih y _ h2 o h' hr x hX hxl hxo hxh⟩
end
section
/-! the steps only make cells -/
theorem mv_bif {α : Type} {b : Bool} {a : α} {r : α} (e : (bif b then some a else none) = some r) : a = r := by
  cases b with
  | true => exact Option.some.inj e
  | false => cases e
theorem mi_pure_mn (len : Nat) (t : List Value → Option (List Value)) : mv_Mn (mi_pure len t) := by
  intro f h r e
  unfold mi_pure at e
  (repeat' split at e) <;> first | (cases e; exact ⟨Nat.le_refl _, Nat.le_refl _⟩) | (cases e; exact ⟨Nat.le_succ _, Nat.le_add_right _ _⟩) | cases e
theorem mi_iload_mn (len i : Nat) : mv_Mn (mi_iload len i) := by
  intro f h r e
  unfold mi_iload at e
  (repeat' split at e) <;> first | (cases e; exact ⟨Nat.le_refl _, Nat.le_refl _⟩) | (cases e; exact ⟨Nat.le_succ _, Nat.le_add_right _ _⟩) | cases e
theorem mi_lload_mn (len i : Nat) : mv_Mn (mi_lload len i) := by
  intro f h r e
  unfold mi_lload at e
  (repeat' split at e) <;> first | (cases e; exact ⟨Nat.le_refl _, Nat.le_refl _⟩) | (cases e; exact ⟨Nat.le_succ _, Nat.le_add_right _ _⟩) | cases e
theorem mi_aload_mn (len i : Nat) : mv_Mn (mi_aload len i) := by
  intro f h r e
  unfold mi_aload at e
  (repeat' split at e) <;> first | (cases e; exact ⟨Nat.le_refl _, Nat.le_refl _⟩) | (cases e; exact ⟨Nat.le_succ _, Nat.le_add_right _ _⟩) | cases e
theorem mi_istore_mn (len i : Nat) : mv_Mn (mi_istore len i) := by
  intro f h r e
  unfold mi_istore at e
  (repeat' split at e) <;> first | (cases e; exact ⟨Nat.le_refl _, Nat.le_refl _⟩) | (cases e; exact ⟨Nat.le_succ _, Nat.le_add_right _ _⟩) | cases e
theorem mi_lstore_mn (len i : Nat) : mv_Mn (mi_lstore len i) := by
  intro f h r e
  unfold mi_lstore at e
  (repeat' split at e) <;> first | (cases e; exact ⟨Nat.le_refl _, Nat.le_refl _⟩) | (cases e; exact ⟨Nat.le_succ _, Nat.le_add_right _ _⟩) | cases e
theorem mi_astore_mn (len i : Nat) : mv_Mn (mi_astore len i) := by
  intro f h r e
  unfold mi_astore at e
  (repeat' split at e) <;> first | (cases e; exact ⟨Nat.le_refl _, Nat.le_refl _⟩) | (cases e; exact ⟨Nat.le_succ _, Nat.le_add_right _ _⟩) | cases e
theorem mi_iinc_mn (i : Nat) (n : Int32) : mv_Mn (mi_iinc i n) := by
  intro f h r e
  unfold mi_iinc at e
  (repeat' split at e) <;> first | (cases e; exact ⟨Nat.le_refl _, Nat.le_refl _⟩) | (cases e; exact ⟨Nat.le_succ _, Nat.le_add_right _ _⟩) | cases e
theorem mi_goto_mn (t : Nat) : mv_Mn (mi_goto t) := by
  intro f h r e
  unfold mi_goto at e
  (repeat' split at e) <;> first | (cases e; exact ⟨Nat.le_refl _, Nat.le_refl _⟩) | (cases e; exact ⟨Nat.le_succ _, Nat.le_add_right _ _⟩) | cases e
theorem mi_if_mn (b : Int32 → Prop) [DecidablePred b] (t : Nat) : mv_Mn (mi_if b t) := by
  intro f h r e
  unfold mi_if at e
  (repeat' split at e) <;> first | (cases e; exact ⟨Nat.le_refl _, Nat.le_refl _⟩) | (cases e; exact ⟨Nat.le_succ _, Nat.le_add_right _ _⟩) | cases e
theorem mi_icmp_mn (b : Int32 → Int32 → Prop) [∀ x y, Decidable (b x y)] (t : Nat) : mv_Mn (mi_icmp b t) := by
  intro f h r e
  unfold mi_icmp at e
  (repeat' split at e) <;> first | (cases e; exact ⟨Nat.le_refl _, Nat.le_refl _⟩) | (cases e; exact ⟨Nat.le_succ _, Nat.le_add_right _ _⟩) | cases e
theorem mi_sw_mn (ks : List (Int32 × Nat)) (d : Nat) : mv_Mn (mi_sw ks d) := by
  intro f h r e
  unfold mi_sw at e
  (repeat' split at e) <;> first | (cases e; exact ⟨Nat.le_refl _, Nat.le_refl _⟩) | (cases e; exact ⟨Nat.le_succ _, Nat.le_add_right _ _⟩) | cases e
theorem mi_iret_mn  : mv_Mn (mi_iret ) := by
  intro f h r e
  unfold mi_iret at e
  (repeat' split at e) <;> first | (cases e; exact ⟨Nat.le_refl _, Nat.le_refl _⟩) | (cases e; exact ⟨Nat.le_succ _, Nat.le_add_right _ _⟩) | cases e
theorem mi_zret_mn  : mv_Mn (mi_zret ) := by
  intro f h r e
  unfold mi_zret at e
  (repeat' split at e) <;> first | (cases e; exact ⟨Nat.le_refl _, Nat.le_refl _⟩) | (cases e; exact ⟨Nat.le_succ _, Nat.le_add_right _ _⟩) | cases e
theorem mi_vret_mn  : mv_Mn (mi_vret ) := by
  intro f h r e
  unfold mi_vret at e
  (repeat' split at e) <;> first | (cases e; exact ⟨Nat.le_refl _, Nat.le_refl _⟩) | (cases e; exact ⟨Nat.le_succ _, Nat.le_add_right _ _⟩) | cases e
theorem mi_aret_mn  : mv_Mn (mi_aret ) := by
  intro f h r e
  unfold mi_aret at e
  (repeat' split at e) <;> first | (cases e; exact ⟨Nat.le_refl _, Nat.le_refl _⟩) | (cases e; exact ⟨Nat.le_succ _, Nat.le_add_right _ _⟩) | cases e
theorem mi_get_mn (ci k : Nat) : mv_Mn (mi_get ci k) := by
  intro f h r e
  unfold mi_get at e
  split at e
  · split at e
    · rename_i cj fs hq
      cases hb : Nat.beq cj ci with
      | false => rw [hb] at e; cases e
      | true =>
        rw [hb, cond_true] at e
        split at e
        · cases e; exact ⟨Nat.le_refl _, Nat.le_refl _⟩
        · cases e
    · cases e
  · cases e
theorem mi_iald_mn  : mv_Mn (mi_iald ) := by
  intro f h r e
  unfold mi_iald at e
  (repeat' split at e) <;> first | (cases e; exact ⟨Nat.le_refl _, Nat.le_refl _⟩) | (cases e; exact ⟨Nat.le_succ _, Nat.le_add_right _ _⟩) | cases e
theorem mi_iast_mn  : mv_Mn (mi_iast ) := by
  intro f h r e
  unfold mi_iast at e
  (repeat' split at e) <;> first | (cases e; exact ⟨Nat.le_refl _, Nat.le_refl _⟩) | (cases e; exact ⟨Nat.le_succ _, Nat.le_add_right _ _⟩) | cases e
theorem mi_lald_mn  : mv_Mn (mi_lald ) := by
  intro f h r e
  unfold mi_lald at e
  (repeat' split at e) <;> first | (cases e; exact ⟨Nat.le_refl _, Nat.le_refl _⟩) | (cases e; exact ⟨Nat.le_succ _, Nat.le_add_right _ _⟩) | cases e
theorem mi_last_mn  : mv_Mn (mi_last ) := by
  intro f h r e
  unfold mi_last at e
  (repeat' split at e) <;> first | (cases e; exact ⟨Nat.le_refl _, Nat.le_refl _⟩) | (cases e; exact ⟨Nat.le_succ _, Nat.le_add_right _ _⟩) | cases e
theorem mi_throw_mn (k : Nat) : mv_Mn (mi_throw k) := by
  intro f h r e
  unfold mi_throw at e
  (repeat' split at e) <;> first | (cases e; exact ⟨Nat.le_refl _, Nat.le_refl _⟩) | (cases e; exact ⟨Nat.le_succ _, Nat.le_add_right _ _⟩) | cases e
theorem mi_obj_mn  : mv_Mn (mi_obj ) := by
  intro f h r e
  unfold mi_obj at e
  (repeat' split at e) <;> first | (cases e; exact ⟨Nat.le_refl _, Nat.le_refl _⟩) | (cases e; exact ⟨Nat.le_succ _, Nat.le_add_right _ _⟩) | cases e
theorem mi_put_mn (ci k : Nat) (ty : FieldType) : mv_Mn (mi_put ci k ty) := by
  intro f h r e
  unfold mi_put at e
  (try (repeat' split at e)) <;> first | (have e := mv_bif e; subst e; first | exact ⟨Nat.le_refl _, Nat.le_refl _⟩ | exact ⟨Nat.le_add_right _ _, Nat.le_add_right _ _⟩) | cases e
theorem mi_alen_mn (t : Nat) : mv_Mn (mi_alen t) := by
  intro f h r e
  unfold mi_alen at e
  (try (repeat' split at e)) <;> first | (have e := mv_bif e; subst e; first | exact ⟨Nat.le_refl _, Nat.le_refl _⟩ | exact ⟨Nat.le_add_right _ _, Nat.le_add_right _ _⟩) | cases e
theorem mi_callV_mn (ci z n : Nat) : mv_Mn (mi_callV ci z n) := by
  intro f h r e
  unfold mi_callV at e
  (try (repeat' split at e)) <;> first | (have e := mv_bif e; subst e; first | exact ⟨Nat.le_refl _, Nat.le_refl _⟩ | exact ⟨Nat.le_add_right _ _, Nat.le_add_right _ _⟩) | cases e
theorem mi_callI_mn (z n : Nat) : mv_Mn (mi_callI z n) := by
  intro f h r e
  unfold mi_callI at e
  (try (repeat' split at e)) <;> first | (have e := mv_bif e; subst e; first | exact ⟨Nat.le_refl _, Nat.le_refl _⟩ | exact ⟨Nat.le_add_right _ _, Nat.le_add_right _ _⟩) | cases e
theorem mi_callK_mn (b : Nat → Bool) (z n : Nat) : mv_Mn (mi_callK b z n) := by
  intro f h r e
  unfold mi_callK at e
  (try (repeat' split at e)) <;> first | (have e := mv_bif e; subst e; first | exact ⟨Nat.le_refl _, Nat.le_refl _⟩ | exact ⟨Nat.le_add_right _ _, Nat.le_add_right _ _⟩) | cases e
theorem mi_callS_mn (z n : Nat) : mv_Mn (mi_callS z n) := by
  intro f h r e
  unfold mi_callS at e
  (try (repeat' split at e)) <;> first | (have e := mv_bif e; subst e; first | exact ⟨Nat.le_refl _, Nat.le_refl _⟩ | exact ⟨Nat.le_add_right _ _, Nat.le_add_right _ _⟩) | cases e
theorem mi_new_mn (ci : Nat) (fs : List Value) : mv_Mn (mi_new ci fs) := by
  intro f h r e
  unfold mi_new at e
  (try (repeat' split at e)) <;> first | (have e := mv_bif e; subst e; first | exact ⟨Nat.le_refl _, Nat.le_refl _⟩ | exact ⟨Nat.le_add_right _ _, Nat.le_add_right _ _⟩) | cases e
theorem mi_newa_mn (t : Nat) (z : (Nat → Int32) ⊕ (Nat → Int64) ⊕ (Nat → UInt32) ⊕ (Nat → UInt64) ⊕ (Nat → Option Nat)) : mv_Mn (mi_newa t z) := by
  intro f h r e
  unfold mi_newa at e
  (try (repeat' split at e)) <;> first | (have e := mv_bif e; subst e; first | exact ⟨Nat.le_refl _, Nat.le_refl _⟩ | exact ⟨Nat.le_add_right _ _, Nat.le_add_right _ _⟩) | cases e
/-! switches -/
theorem mn_lookup {g : mv_Gp} {y pc len d : Nat} {dflt : Int} {ps : Array (Int × Int)} {ks : List (Int32 × Nat)} (hd : decode (g.M y).cc pc = .ok (.lookupswitch dflt ps, len)) (hp : (ps.toList.zip (ps.toList.drop 1)).all (fun (a, next) => a.1 < next.1) = true) (hdf : (pc : Int) + dflt = (d : Int))
    (hk : ps.toList.map (fun q => (q.1, (pc : Int) + q.2)) = ks.map (fun q => (q.1.toInt, ((q.2 : Nat) : Int)))) : mv_Snd g y pc (mi_sw ks d) := by
  have key : ∀ (x : Int32) (l : List (Int × Int)) (ks : List (Int32 × Nat)), l.map (fun q => (q.1, (pc : Int) + q.2)) = ks.map (fun q => (q.1.toInt, ((q.2 : Nat) : Int))) → (pc : Int) + Op.lookupswitch.offset l dflt x.toInt = ((mv_sw x d ks : Nat) : Int) := by
    intro x l
    induction l with
    | nil =>
      intro ks e
      cases ks with
      | nil => exact hdf
      | cons _ _ => cases e
    | cons a r ih =>
      intro ks e
      cases ks with
      | nil => cases e
      | cons b ks =>
        simp only [List.map_cons, List.cons.injEq, Prod.mk.injEq] at e
        obtain ⟨⟨e1, e2⟩, e3⟩ := e
        obtain ⟨a1, a2⟩ := a
        rw [Op.lookupswitch.offset_cons]
        dsimp only at e1 e2
        by_cases hx : x = b.1
        · subst hx
          rw [if_pos e1]
          simp only [mv_sw, if_pos]
          exact e2
        · rw [if_neg (fun q => hx (Int32.toInt_inj.mp (by rw [← q]; exact e1)))]
          simp only [mv_sw, if_neg hx]
          exact ih ks e3
  intro x hX L stk h r e hr c1 c2 c3 c4 as H locs ls hw hl
  unfold mi_sw at e
  dsimp only at e
  split at e
  · rename_i v st
    cases e
    exact lv_lookup hX.1.1 hX.1.2.1 hd hp rfl (key v ps.toList ks hk) (hr.2.2 c1 c2 hr.1 hr.2.1 as H locs ls hw hl)
  · cases e
/-- a table from lo on, with n places -/
def mv_tab1 (lo : Int) (pc : Nat) : List Int → List (Int × Int)
  | [] => []
  | o :: r => (lo, (pc : Int) + o) :: mv_tab1 (lo + 1) pc r
theorem mn_table {g : mv_Gp} {y pc len d : Nat} {dflt lo hi : Int} {offs : Array Int} {ks : List (Int32 × Nat)} (hd : decode (g.M y).cc pc = .ok (.tableswitch dflt lo hi offs, len)) (hdf : (pc : Int) + dflt = (d : Int)) (hhi : hi - lo + 1 = (offs.toList.length : Int))
    (hk : mv_tab1 lo pc offs.toList = ks.map (fun q => (q.1.toInt, ((q.2 : Nat) : Int)))) : mv_Snd g y pc (mi_sw ks d) := by
  have key : ∀ (x : Int32) (l : List Int) (lo : Int) (ks : List (Int32 × Nat)), mv_tab1 lo pc l = ks.map (fun q => (q.1.toInt, ((q.2 : Nat) : Int))) →
      (x.toInt < lo ∨ lo + l.length ≤ x.toInt → mv_sw x d ks = d) ∧ (¬ x.toInt < lo → x.toInt < lo + l.length → ∃ off, l[(x.toInt - lo).toNat]? = some off ∧ (pc : Int) + off = ((mv_sw x d ks : Nat) : Int)) := by
    intro x l
    induction l with
    | nil =>
      intro lo ks e
      cases ks with
      | nil => exact ⟨fun _ => rfl, fun h1 h2 => absurd h2 (by simp; omega)⟩
      | cons _ _ => cases e
    | cons a r ih =>
      intro lo ks e
      cases ks with
      | nil => cases e
      | cons b ks =>
        simp only [mv_tab1, List.map_cons, List.cons.injEq, Prod.mk.injEq] at e
        obtain ⟨⟨e1, e2⟩, e3⟩ := e
        obtain ⟨i1, i2⟩ := ih (lo + 1) ks e3
        simp only [List.length_cons]
        by_cases hx : x = b.1
        · subst hx
          refine ⟨fun h9 => absurd h9 (by omega), fun _ _ => ⟨a, ?_, ?_⟩⟩
          · rw [show (b.1.toInt - lo).toNat = 0 by omega]; rfl
          · simp only [mv_sw, if_pos]; exact e2
        · have hne : x.toInt ≠ lo := fun q => hx (Int32.toInt_inj.mp (by rw [q]; exact e1))
          simp only [mv_sw, if_neg hx]
          refine ⟨fun h9 => i1 (by omega), fun h1 h2 => ?_⟩
          obtain ⟨off, o1, o2⟩ := i2 (by omega) (by omega)
          refine ⟨off, ?_, o2⟩
          rw [show (x.toInt - lo).toNat = (x.toInt - (lo + 1)).toNat + 1 by omega, List.getElem?_cons_succ]
          exact o1
  intro x hX L stk h r e hr c1 c2 c3 c4 as H locs ls hw hl
  unfold mi_sw at e
  dsimp only at e
  split at e
  · rename_i v st
    cases e
    obtain ⟨k1, k2⟩ := key v offs.toList lo ks hk
    have hG := hr.2.2 c1 c2 hr.1 hr.2.1 as H locs ls hw hl
    by_cases hv : v.toInt < lo ∨ hi < v.toInt
    · rw [k1 (by omega)] at hG
      exact lv_tableOut hX.1.1 hX.1.2.1 hd hv hdf hG
    · obtain ⟨off, o1, o2⟩ := k2 (fun q => hv (Or.inl q)) (by omega)
      exact lv_tableIn hX.1.1 hX.1.2.1 hd (fun q => hv (Or.inl q)) (fun q => hv (Or.inr q)) (by rw [← Array.getElem?_toList]; exact o1) o2 hG
  · cases e
end
section
/-! WHAT STANDS OUTSIDE THE WORLD: constants, statics, texts, tables; arraycopy; throws -/
theorem mn_ldcS {g : mv_Gp} {y pc k idx : Nat} {tx : String} (hd : decode (g.M y).cc pc = .ok (.ldc idx, 2)) (hP : ∀ sd A U H, g.Ph sd A U H → ∃ a, sd k = some a ∧ vk_R (g.M y).nm.cls idx tx a U) : mv_Snd g y pc (mi_pure 2 (mo_push (.retAddr k))) := by
  intro x hX L stk h r e hr c1 c2 c3 c4 as H locs ls hw hl
  cases e
  obtain ⟨a, h1, h2⟩ := hP _ _ _ _ hX.2.1.2.1
  have kk := hr.2.2 c1 c2 hr.1 hr.2.1 as H locs ls hw hl
  simp only [List.map_cons, mv_v, h1] at kk
  exact va_ldcS hX.1.1 hX.1.2.1 hX.1.2.2.2.1 h2 hd kk
theorem mn_ldcW {g : mv_Gp} {y pc k idx : Nat} {tx : String} (hd : decode (g.M y).cc pc = .ok (.ldc_w idx, 3)) (hP : ∀ sd A U H, g.Ph sd A U H → ∃ a, sd k = some a ∧ vk_R (g.M y).nm.cls idx tx a U) : mv_Snd g y pc (mi_pure 3 (mo_push (.retAddr k))) := by
  intro x hX L stk h r e hr c1 c2 c3 c4 as H locs ls hw hl
  cases e
  obtain ⟨a, h1, h2⟩ := hP _ _ _ _ hX.2.1.2.1
  have kk := hr.2.2 c1 c2 hr.1 hr.2.1 as H locs ls hw hl
  simp only [List.map_cons, mv_v, h1] at kk
  intro T hT X
  obtain ⟨t, a1, b1⟩ := kk T hT X
  exact ⟨t, X.ldcStringW hX.1.1 hX.1.2.2.2.1 (text := tx) (a := a) h2.1 h2.2 (g := F0 x.m pc ls (stk.map (mv_v as x.sd))) rfl (by rw [hX.1.2.1]; exact hd) t a1, b1⟩
theorem mn_ldc2 {g : mv_Gp} {y pc idx : Nat} {v : Int64} (hd : decode (g.M y).cc pc = .ok (.ldc2_w idx, 3)) (hw9 : Cond.constantLong (g.M y).nm.cls idx v ∈ g.G) : mv_Snd g y pc (mi_pure 3 (mo_push (.long v))) := by
  intro x hX L stk h r e hr c1 c2 c3 c4 as H locs ls hw hl
  cases e
  exact lv_ldc2 hX.1.1 hX.1.2.1 hX.1.2.2.2.1 (hX.1.2.2.2.2.2.2.2.2.2 _ hw9) hd (hr.2.2 c1 c2 hr.1 hr.2.1 as H locs ls hw hl)
/-- a static's value: v is a number or a thing outside -/
theorem mn_gets {g : mv_Gp} {y pc idx : Nat} {C n d : String} {v : Value} (hd : decode (g.M y).cc pc = .ok (.getstatic idx, 3)) (hlk : Cond.fieldLink (g.M y).nm.cls idx C n d ∈ g.G) (hP : ∀ sd A U H, g.Ph sd A U H → va_Z C n d (mv_v [] sd v) A U H) (hv : ∀ as sd, mv_v as sd v = mv_v [] sd v) : mv_Snd g y pc (mi_pure 3 (mo_push v)) := by
  intro x hX L stk h r e hr c1 c2 c3 c4 as H locs ls hw hl
  cases e
  have kk := hr.2.2 c1 c2 hr.1 hr.2.1 as H locs ls hw hl
  rw [List.map_cons, hv] at kk
  exact va_gets hX.1.1 hX.1.2.1 (hP _ _ _ _ hX.2.1.2.1) hw.2.2.2.2 hX.1.2.2.2.1 (hX.1.2.2.2.2.2.2.2.2.2 _ hlk) (fun _ h9 => h9) hd kk
theorem mn_getsN {g : mv_Gp} {y pc idx : Nat} {C n d host : String} {v : Value} (hd : decode (g.M y).cc pc = .ok (.getstatic idx, 3)) (hlk : Cond.fieldLinkNest (g.M y).nm.cls idx C n d host ∈ g.G) (hP : ∀ sd A U H, g.Ph sd A U H → va_Z C n d (mv_v [] sd v) A U H) (hv : ∀ as sd, mv_v as sd v = mv_v [] sd v) : mv_Snd g y pc (mi_pure 3 (mo_push v)) := by
  intro x hX L stk h r e hr c1 c2 c3 c4 as H locs ls hw hl
  cases e
  have kk := hr.2.2 c1 c2 hr.1 hr.2.1 as H locs ls hw hl
  rw [List.map_cons, hv] at kk
  exact va_getsN hX.1.1 hX.1.2.1 (hP _ _ _ _ hX.2.1.2.1) hw.2.2.2.2 hX.1.2.2.2.1 (hX.1.2.2.2.2.2.2.2.2.2 _ hlk) (fun _ h9 => h9) hd kk
/-- a field of a thing outside -/
def mi_getS (tb : Nat → Option Value) : mv_S := fun f h =>
  match f.2.2 with
  | .retAddr q :: st => match tb q with
    | some v => some (.inl ((f.1 + 3, f.2.1, v :: st), h))
    | none => none
  | _ => none
theorem mn_getS {g : mv_Gp} {y pc idx : Nat} {o n d : String} {tb : Nat → Option Value} (hd : decode (g.M y).cc pc = .ok (.getfield idx, 3)) (hlk : Cond.fieldLink (g.M y).nm.cls idx o n d ∈ g.G) (hP : ∀ sd A U H, g.Ph sd A U H → ∀ q v, tb q = some v → ∃ a, sd q = some a ∧ va_OF o n d (mv_v [] sd v) a A U H)
    (hv : ∀ q v, tb q = some v → ∀ as sd, mv_v as sd v = mv_v [] sd v) : mv_Snd g y pc (mi_getS tb) := by
  intro x hX L stk h r e hr c1 c2 c3 c4 as H locs ls hw hl
  unfold mi_getS at e
  dsimp only at e
  split at e
  · rename_i q st
    split at e
    · rename_i v hq
      cases e
      obtain ⟨a, h1, h2⟩ := hP _ _ _ _ hX.2.1.2.1 q v hq
      have kk := hr.2.2 c1 c2 hr.1 hr.2.1 as H locs ls hw hl
      rw [List.map_cons, hv q v hq] at kk
      simp only [List.map_cons, mv_v, h1]
      exact vk_getf hX.1.1 hX.1.2.1 h2 hw.2.2.2.2 hX.1.2.2.2.1 (hX.1.2.2.2.2.2.2.2.2.2 _ hlk) (fun _ h9 => h9) hd kk
    · cases e
  · cases e
/-- a table's places and length -/
def mi_tld (tb : Nat → Option (Nat × (Nat → Int32))) : mv_S := fun f h =>
  match f.2.2 with
  | .int i :: .retAddr q :: st => match tb q with
    | some (n, a) => if mv_in i n = true then some (.inl ((f.1 + 1, f.2.1, .int (a i.toNatClampNeg) :: st), h)) else none
    | none => none
  | _ => none
def mi_tlen (tb : Nat → Option (Nat × (Nat → Int32))) : mv_S := fun f h =>
  match f.2.2 with
  | .retAddr q :: st => match tb q with
    | some (n, _) => some (.inl ((f.1 + 1, f.2.1, .int (Int32.ofNat n) :: st), h))
    | none => none
  | _ => none
theorem mn_tldi {g : mv_Gp} {y pc : Nat} {tb : Nat → Option (Nat × (Nat → Int32))} (hd : decode (g.M y).cc pc = .ok (.iaload, 1)) (hP : ∀ sd A U H, g.Ph sd A U H → ∀ q n a, tb q = some (n, a) → ∃ t, sd q = some t ∧ va_T .int t n (fun j => .int (a j)) A U H) : mv_Snd g y pc (mi_tld tb) := by
  intro x hX L stk h r e hr c1 c2 c3 c4 as H locs ls hw hl
  unfold mi_tld at e
  dsimp only at e
  split at e
  · rename_i i q st
    split at e
    · rename_i n a hq
      split at e
      · rename_i hin
        cases e
        obtain ⟨t, h1, h2⟩ := hP _ _ _ _ hX.2.1.2.1 q n a hq
        simp only [List.map_cons, mv_v, h1]
        exact va_ti hX.1.1 hX.1.2.1 h2 hw.2.2.2.2 (mv_in_ok hin) rfl hd (hr.2.2 c1 c2 hr.1 hr.2.1 as H locs ls hw hl)
      · cases e
    · cases e
  · cases e
theorem mn_tldb {g : mv_Gp} {y pc : Nat} {tb : Nat → Option (Nat × (Nat → Int32))} (hd : decode (g.M y).cc pc = .ok (.baload, 1)) (hP : ∀ sd A U H, g.Ph sd A U H → ∀ q n a, tb q = some (n, a) → ∃ t, sd q = some t ∧ va_T .byte t n (fun j => .int (a j)) A U H) : mv_Snd g y pc (mi_tld tb) := by
  intro x hX L stk h r e hr c1 c2 c3 c4 as H locs ls hw hl
  unfold mi_tld at e
  dsimp only at e
  split at e
  · rename_i i q st
    split at e
    · rename_i n a hq
      split at e
      · rename_i hin
        cases e
        obtain ⟨t, h1, h2⟩ := hP _ _ _ _ hX.2.1.2.1 q n a hq
        simp only [List.map_cons, mv_v, h1]
        exact va_tb hX.1.1 hX.1.2.1 h2 hw.2.2.2.2 (mv_in_ok hin) rfl hd (hr.2.2 c1 c2 hr.1 hr.2.1 as H locs ls hw hl)
      · cases e
    · cases e
  · cases e
theorem mn_tlen {g : mv_Gp} {y pc : Nat} {ty : FieldType} {tb : Nat → Option (Nat × (Nat → Int32))} (hd : decode (g.M y).cc pc = .ok (.arraylength, 1)) (hP : ∀ sd A U H, g.Ph sd A U H → ∀ q n a, tb q = some (n, a) → ∃ t, sd q = some t ∧ va_T ty t n (fun j => .int (a j)) A U H) : mv_Snd g y pc (mi_tlen tb) := by
  intro x hX L stk h r e hr c1 c2 c3 c4 as H locs ls hw hl
  unfold mi_tlen at e
  dsimp only at e
  split at e
  · rename_i q st
    split at e
    · rename_i n a hq
      cases e
      obtain ⟨t, h1, h2⟩ := hP _ _ _ _ hX.2.1.2.1 q n a hq
      simp only [List.map_cons, mv_v, h1]
      exact va_tlen hX.1.1 hX.1.2.1 h2 hw.2.2.2.2 rfl hd (hr.2.2 c1 c2 hr.1 hr.2.1 as H locs ls hw hl)
    · cases e
  · cases e
theorem mi_getS_mn (tb : Nat → Option Value) : mv_Mn (mi_getS tb) := by
  intro f h r e
  unfold mi_getS at e
  (repeat' split at e) <;> first | (cases e; exact ⟨Nat.le_refl _, Nat.le_refl _⟩) | cases e
theorem mi_tld_mn (tb : Nat → Option (Nat × (Nat → Int32))) : mv_Mn (mi_tld tb) := by
  intro f h r e
  unfold mi_tld at e
  (repeat' split at e) <;> first | (cases e; exact ⟨Nat.le_refl _, Nat.le_refl _⟩) | cases e
theorem mi_tlen_mn (tb : Nat → Option (Nat × (Nat → Int32))) : mv_Mn (mi_tlen tb) := by
  intro f h r e
  unfold mi_tlen at e
  (repeat' split at e) <;> first | (cases e; exact ⟨Nat.le_refl _, Nat.le_refl _⟩) | cases e
/-- an answer of a small type -/
def mi_nret (ty : FieldType) : mv_S := fun f h =>
  match f.2.2 with
  | [.int x] => if vp_nar ty x = x then some (.inr (.inl (.inl (some (.int x)), h))) else none
  | _ => none
theorem mn_nret {g : mv_Gp} {y pc : Nat} {ty : FieldType} (hd : decode (g.M y).cc pc = .ok (.ireturn, 1)) (hret : (g.M y).ret = some ty) (hty : ∀ x, narrow ty (.int x) = .int (vp_nar ty x)) : mv_Snd g y pc (mi_nret ty) := by
  intro x hX L stk h r e hr c1 c2 c3 c4 as H locs ls hw hl
  unfold mi_nret at e
  dsimp only at e
  split at e
  · rename_i v
    split at e
    · rename_i hv
      cases e
      obtain ⟨ho, hh⟩ := hr
      subst hh
      exact mz_ret (W.zret (v := v) (ty := ty) hX.1.1 hX.1.2.1 (by rw [hX.1.2.2.2.2.2.1]; exact hret) (by rw [hty, hv]) (fun t ht hW => hX.2.2.2.2.2.2.1 (some (.int v)) as t ho (mv_nd hw ht) hW.alike) (fun q hq => hX.2.1.2.2.2 _ (hw.2.2.2.2.2.2 q hq)) hd hX.1.2.2.2.2.1)
    · cases e
  · cases e
theorem mi_nret_mn (ty : FieldType) : mv_Mn (mi_nret ty) := by
  intro f h r e
  unfold mi_nret at e
  (repeat' split at e) <;> first | (cases e; exact ⟨Nat.le_refl _, Nat.le_refl _⟩) | cases e
/-- System.arraycopy of ints -/
def mi_copy : mv_S := fun f h =>
  match f.2.2 with
  | .int n :: .int dp :: .ref q1 :: .int sp :: .ref q0 :: st => match h.1[q0]?, h.1[q1]? with
    | some (.inl (0, n0, .inl a)), some (.inl (0, n1, .inl b)) => if (¬ sp < 0 ∧ ¬ dp < 0 ∧ ¬ n < 0) ∧ sp.toNatClampNeg + n.toNatClampNeg ≤ n0 ∧ dp.toNatClampNeg + n.toNatClampNeg ≤ n1 ∧ mv_cat st ≤ 8 then
        some (.inl ((f.1 + 3, f.2.1, st), (h.1.set q1 (.inl (0, n1, .inl (va_cpy a b sp.toNatClampNeg dp.toNatClampNeg n.toNatClampNeg))), h.2.1, h.2.2))) else none
    | _, _ => none
  | _ => none
theorem mn_copy {g : mv_Gp} {y pc idx : Nat} (hd : decode (g.M y).cc pc = .ok (.invokestatic idx, 3)) (ht : g.tk[0]? = some .int) (hlk : Cond.methodLink (g.M y).nm.cls idx arraycopyName ∈ g.G) (hnat : Cond.native arraycopyName ∈ g.G) (hsm : Cond.static arraycopyName ∈ g.G) (hini : Cond.initialized "java/lang/System" ∈ g.G)
    (hfr : 1 ≤ (g.M y).fr) (hlo : 8 + (nativeFrameWords "java/lang/System" "arraycopy" 5 + 11) ≤ (g.M y).lo) : mv_Snd g y pc mi_copy := by
  intro x hX L stk h r e hr c1 c2 c3 c4 as H locs ls hw hl
  unfold mi_copy at e
  dsimp only at e
  split at e
  · rename_i n dp q1 sp q0 st
    split at e
    · rename_i n0 a n1 b hq0 hq1
      split at e
      · rename_i hc
        cases e
        have hts := hX.1.2.2.2.2.2.2.2.2.2
        have q3 := hX.2.2.2.2.1
        have q4 := hX.2.2.2.2.2.1
        exact va_copyi (D := x.D) (cl := g.cl) (tys := mv_tys x.cA g.tk) (ws := mv_w as x.sd x.cA h.1) hX.1.1 hX.1.2.1 (by rw [hX.1.2.2.1]; exact hl.2.1.symm) hX.1.2.2.2.1 (hts _ hlk) (hts _ hnat) (hts _ hsm) (hts _ hini) hX.2.1.1 hw.2.2.1 hw.2.2.2.1 hw.2.2.2.2 q0 q1 0 0 (mv_w_at hw.1 hq0) (mv_w_at hw.1 hq1) (mv_tys_at ht) (mv_tys_at ht) rfl
          hc.1.1 hc.1.2.1 hc.1.2.2 hc.2.1 hc.2.2.1 (fun i hi => rfl) (by omega) (by rw [mv_cat_map]; have := hc.2.2.2; omega) hd (fun H1 locs1 hP hD hS => hr.2.2 c1 c2 hr.1 hr.2.1 as H1 locs1 ls ⟨by show as.length = (h.1.set q1 _).length; rw [List.length_set]; exact hw.1, hw.2.1, by show va_P _ _ (mv_w as x.sd x.cA (h.1.set q1 _)) _; rw [mv_w_set hw.1]; exact hP, by show va_D _ (mv_w as x.sd x.cA (h.1.set q1 _)); rw [mv_w_set hw.1]; exact hD, hS⟩ hl)
      · cases e
    · cases e
  · cases e
theorem mi_copy_mn : mv_Mn mi_copy := by
  intro f h r e
  unfold mi_copy at e
  (repeat' split at e) <;> first | (cases e; exact ⟨Nat.le_refl _, Nat.le_refl _⟩) | cases e
set_option maxHeartbeats 1000000 in
theorem mn_callK {g : mv_Gp} (hO : mv_Ok g) {y pc z n idx : Nat} {C : String} {b : Nat → Bool} (hd : decode (g.M y).cc pc = .ok (.invokevirtual idx, 3)) (hP : ∀ sd A U H, g.Ph sd A U H → ∀ q, b q = true → ∃ a, sd q = some a ∧ va_O C a A U H) (hH : mv_Hn g y pc) (hz : mv_Cl g y z) (hlk : Cond.methodLink (g.M y).nm.cls idx (g.M z).nm ∈ g.G) (him : Cond.instanceMethod (g.M z).nm ∈ g.G) (hse : Cond.selects C (g.M z).nm (g.M z).nm ∈ g.G)
    (hn : (parseMethodDescriptor (g.M z).nm.desc).map (fun d => d.parameters.length) = some n) : mv_Snd g y pc (mi_callK b z (n + 1)) := by
  intro x hX L stk h r e hr c1 c2 c3 c4 as H locs ls hw hl
  unfold mi_callK at e
  dsimp only at e
  split at e
  · rename_i q vs hvs
    cases hcj : (b q && Nat.ble (n + 1) stk.length && Nat.ble (mv_cat (stk.drop (n + 1))) 8) with
    | false => rw [hcj] at e; cases e
    | true =>
      rw [hcj, cond_true] at e
      cases e
      simp only [Bool.and_eq_true] at hcj
      obtain ⟨⟨hj, hlen⟩, hcat⟩ := hcj
      have hts := hX.1.2.2.2.2.2.2.2.2.2
      have hst := mv_split hvs
      have hvl : vs.length = n := by
        have h9 := congrArg List.length hvs
        rw [List.length_reverse, List.length_take, List.length_cons] at h9
        have := Nat.le_of_ble_eq_true hlen
        omega
      obtain ⟨a0, ha0, hO0⟩ := hP _ _ _ _ hX.2.1.2.1 q hj
      obtain ⟨cellB, hcell, hobj, hcls, -⟩ := hO0.kept hw.2.2.2.2.2.1
      refine mv_after hO hX hH c1 c2 hw hl (Nat.le_of_ble_eq_true hcat) hz.1 hz.2.1 hz.2.2.1 hz.2.2.2.1 hd ?_ hr
      intro T hT X
      obtain ⟨mk, methM, hnamed, hmethM, hstM, habM⟩ := Cond.instanceMethod_spec (hts _ him)
      obtain ⟨mk9, meth9, hnamed9, hmeth9, hsigM⟩ := mv_sig (hts _ hz.1)
      cases hnamed.symm.trans hnamed9
      cases hmethM.symm.trans hmeth9
      obtain ⟨c2', r2, m2, q1, q2, q3, q4, kP, hkP, hkPi⟩ := Cond.selects_spec (hts _ hse)
      cases hcls.symm.trans q1
      cases (State.methodFound?_of_named hnamed hz.2.2.2.2).symm.trans q2
      cases hnamed.symm.trans q3
      have hselP : selectMethod x.e.platform x.s.vm cellB.cls mk = .method mk := by rw [Launch.admits_selectMethod X.admits]; exact q4
      have hq0 : mv_v as x.sd (.retAddr q) = .ref a0 := by simp only [mv_v, ha0]; rfl
      obtain ⟨vm₁, X₁, hstep₁⟩ := X.invokevirtual hX.1.1 hX.1.2.2.2.1 (hts _ hlk) hnamed hmethM hstM hkP hkPi hz.2.2.2.2 (a := a0) (cell := cellB) (by rw [hT]; exact hcell)
        (fun z9 h9 => by rw [h9] at hobj; cases hobj) hselP hmethM habM hkP hkPi (g := F0 x.m pc ls (stk.map (mv_v as x.sd))) rfl (argsL := vs.map (mv_v as x.sd)) (rest := (stk.drop (n + 1)).map (mv_v as x.sd)) (by rw [List.length_map, hvl]; exact mv_len hn hsigM)
        (by show stk.map (mv_v as x.sd) = _; conv => lhs; rw [hst]
            rw [List.map_append, mv_map_rev, List.map_cons, List.reverse_cons, List.append_assoc, hq0]; rfl) (by rw [hX.1.2.1]; exact hd)
      rw [List.map_cons, hq0]
      exact ⟨vm₁, mk, X₁.warmed, X₁, X₁.named hnamed, fun target h9 => hstep₁ _ fun acts => by rw [doInvoke_state]; exact h9⟩
  · cases e
end
section
/-! THROWS OF THE SMALL MACHINE -/
/-- where a static field of references lies, in H -/
def mz_L (C n d : String) (A : Nat → Prop) (U : State) (H : Heap) : Prop := ∃ (c : ClassId) (k : Class) (i : Nat) (f : Field) (a : Nat) (cell : Cell) (v : Value), U.vm.findClass C = some c ∧ U.fieldFound? C n d = some (c, k, i, f) ∧ f.isStatic = true ∧ k.statics = some a ∧ H[a]? = some cell ∧ cell.vm.isStatics = true ∧ cell.cls = c ∧ f.slot < cell.slots.size ∧ k.staticTypes[f.slot]? = some f.type ∧ cell.slots[f.slot]? = some v ∧ v.isRef = true ∧ ¬ A a
theorem mz_L.moved {C n d : String} {A : Nat → Prop} {u U : State} {H : Heap} (hvm : u.vm.Alike U.vm) (h : mz_L C n d A u H) : mz_L C n d A U H := by
  obtain ⟨c, k, i, f, a, cell, v, h1, h2, h3, h4, h5, h6, h7, h8, h9, h10⟩ := h
  obtain ⟨k', hi', he⟩ := State.fieldFound?_setVm hvm h2
  exact ⟨c, k', i, f, a, cell, v, by rw [hvm.findClass]; exact h1, hi', h3, by rw [he]; exact h4, h5, h6, h7, h8, by rw [he]; exact h9, h10⟩
theorem mz_L.kept {C n d : String} {A : Nat → Prop} {U : State} {H H1 : Heap} (h : mz_L C n d A U H) (hq : ∀ a : Nat, a < H.size → ¬ A a → H1[a]? = H[a]?) : mz_L C n d A U H1 := by
  obtain ⟨c, k, i, f, a, cell, v, h1, h2, h3, h4, h5, h6, h7, h8, h9, h10, h11, h12⟩ := h
  exact ⟨c, k, i, f, a, cell, v, h1, h2, h3, h4, by rw [hq a (Array.getElem?_eq_some_iff.mp h5).1 h12]; exact h5, h6, h7, h8, h9, h10, h11, h12⟩
theorem mz_L.narrow {C n d : String} {A B : Nat → Prop} {U : State} {H : Heap} (h : mz_L C n d A U H) (hAB : ∀ q, B q → A q) : mz_L C n d B U H := by
  obtain ⟨c, k, i, f, a, cell, v, h1, h2, h3, h4, h5, h6, h7, h8, h9, h10, h11, h12⟩ := h
  exact ⟨c, k, i, f, a, cell, v, h1, h2, h3, h4, h5, h6, h7, h8, h9, h10, h11, fun z => h12 (hAB _ z)⟩
theorem mz_L.words {C n d : String} {A : Nat → Prop} {s : State} {args : Array Value} (h : mz_L C n d A s s.heap) : (Cond.isRef (.static C n d)).before args s = true ∧ (Cond.laysStatic C n d).before args s = true := by
  obtain ⟨c, k, i, f, a, cell, v, h1, h2, h3, h4, h5, h6, h7, h8, h9, h10, h11, -⟩ := h
  refine ⟨?_, Cond.laysStatic_of h1 h2 h3 h4 h5 h6 h7 h8 h9⟩
  have he : (Term.static C n d).eval args s none [] s = some v := by simp [Term.eval, State.fieldNamed?, h2, h3, h4, h5, h6, h10]
  simp only [Cond.before, Cond.holds, Cond.value, he]
  cases v <;> simp_all [Value.isRef]
theorem mz_L.of {args : Array Value} {s : State} {C n d : String} {A : Nat → Prop} (hl : (Cond.laysStatic C n d).before args s = true) (hr : (Cond.isRef (.static C n d)).before args s = true) (hA : ∀ a : Nat, a < s.heap.size → ¬ A a) : mz_L C n d A s s.heap := by
  obtain ⟨c, k, i, f, a, cell, h1, h2, h3, h4, h5, h6, h7, h8, h9⟩ := Cond.laysStatic_spec hl
  cases hv : (Term.static C n d).eval args s none [] s with
  | none => simp [Cond.before, Cond.holds, Cond.value, hv] at hr
  | some w =>
    obtain ⟨-, a', cell', ha', hcell', -, hslot⟩ := Term.static_spec h2 hv
    cases h4.symm.trans ha'
    cases h5.symm.trans hcell'
    refine ⟨c, k, i, f, a, cell, w, h1, h2, h3, h4, h5, h6, h7, h8, h9, hslot, ?_, hA a (Array.getElem?_eq_some_iff.mp h5).1⟩
    simp only [Cond.before, Cond.holds, Cond.value, hv] at hr
    cases w <;> simp_all [Value.isRef]
set_option maxHeartbeats 1000000 in
theorem mn_throw {g : mv_Gp} (hO : mv_Ok g) {y pc k ik is ic sk : Nat} {text : String} {names : List String}
    (d0 : decode (g.M y).cc pc = .ok (.new ik, 3)) (d3 : decode (g.M y).cc (pc + 3) = .ok (.dup, 1)) (d4 : decode (g.M y).cc (pc + 4) = .ok (.ldc is, 2)) (d6 : decode (g.M y).cc (pc + 6) = .ok (.invokespecial ic, 3)) (d9 : decode (g.M y).cc (pc + 9) = .ok (.athrow, 1))
    (hcls : Bundle.fit (g.exn k) = true) (hnames : ∀ n ∈ names, Bundle.fit n = true) (hk1 : Cond.classLink (g.M y).nm.cls ik (g.exn k) ∈ g.G) (hk2 : Cond.initialized (g.exn k) ∈ g.G) (hP1 : ∀ sd A U H, g.Ph sd A U H → ∃ a, sd sk = some a ∧ vk_R (g.M y).nm.cls is text a U)
    (hat : ∀ w ∈ Bundle.ownAtoms (g.M y).nm.cls ic (g.exn k) names, w ∈ g.G ∨ w ∈ mz_hw) (hP2 : ∀ sd A U H, g.Ph sd A U H → mz_L Bundle.tN "UNASSIGNED_STACK" Bundle.steD A U H ∧ mz_L Bundle.tN "SUPPRESSED_SENTINEL" Bundle.listD A U H)
    (hh : (g.M y).hh = []) (hfr : names.length + 3 < (g.M y).fr) (hlo : 13 * (names.length + 1) + 43 ≤ (g.M y).lo) : mv_Snd g y pc (mi_throw k) := by
  intro x hX L stk h r e hr c1 c2 c3 c4 as H locs ls hw hl
  unfold mi_throw at e
  dsimp only at e
  split at e
  · cases e
    obtain ⟨ho, hhf⟩ := hr
    have hts := hX.1.2.2.2.2.2.2.2.2.2
    have q1 := hX.2.2.1
    have q2 := hX.2.2.2.1
    have q3 := hX.2.2.2.2.1
    have q4 := hX.2.2.2.2.2.1
    have f1 : x.hf.2.1 = h.2.1 + 1 := by rw [hhf]
    have f2 : x.hf.2.2 = h.2.2 + 6 := by rw [hhf]
    intro T hT X
    have hW0 : x.s.WarmedH (mz_s x.s T x.m x.args x.below).vm := State.WarmedH.refl x.s
    have wd : ∀ w ∈ g.G, w.before x.args (mz_s x.s T x.m x.args x.below) = true := fun w hw' => hO.1 w hw' _ _ _ _ hW0 (hts w hw')
    have hPh := hO.2.1 _ _ _ (mz_s x.s T x.m x.args x.below) _ hW0 (hO.2.2.1 _ _ _ _ _ hX.2.1.2.1 hw.2.2.2.2.2.1)
    have hhp : (mz_s x.s T x.m x.args x.below).heap = H := hT
    rw [← hhp] at hPh
    obtain ⟨hL1, hL2⟩ := hP2 _ _ _ _ hPh
    obtain ⟨sa, -, hsa⟩ := hP1 _ _ _ _ hPh
    have wh : ∀ w ∈ mz_hw, w.before x.args (mz_s x.s T x.m x.args x.below) = true := by
      intro w hw'
      simp only [mz_hw, List.mem_cons, List.not_mem_nil, or_false] at hw'
      rcases hw' with rfl | rfl | rfl | rfl
      · exact hL1.words.1
      · exact hL2.words.1
      · exact hL1.words.2
      · exact hL2.words.2
    have htab : x.c.exceptionTable.toList = [] := by rw [mv_tab hX.1.2.2.2.2.2.2.2.1, hh]; rfl
    obtain ⟨U, q, ce, hsteps, hrun, hend, hW, hsame, hce, hcv, hcl, hsz, hold⟩ := mz_throw (T := T) (text := text) (names := names) (ik := ik) (is := is) (ic := ic) (sa := sa) (pc := pc) hX.1.1 hX.1.2.2.2.2.2.2.2.2.1 hX.1.2.2.2.1 hcls hnames X (wd _ hk1) (wd _ hk2) hsa.1 hsa.2
      (fun w hw' => (hat w hw').elim (wd w) (wh w)) (ls := ls) (by rw [hX.1.2.2.1]; exact hl.2.1) (by rw [hX.1.2.1]; exact d0) (by rw [hX.1.2.1]; exact d3) (by rw [hX.1.2.1]; exact d4) (by rw [hX.1.2.1]; exact d6) (by rw [hX.1.2.1]; exact d9) (by rw [htab]; intro z hz; cases hz) hX.1.2.2.2.2.1 (by omega) (by omega) (by omega) (by omega)
    rw [hT] at hsz hold
    refine ⟨U, hsteps, .threw q, hrun, hend, ?_, hW, locs, ?_, fun z hz => hX.2.1.2.2.2 _ (hw.2.2.2.2.2.2 z hz)⟩
    · refine hX.2.2.2.2.2.2.2 k as U q ce ho hce hcv hcl ⟨hw.2.1, by rw [hhf]; exact hw.1, ?_, by rw [hhf]; exact hw.2.2.2.1, Nat.le_trans hw.2.2.2.2.1 hsz, fun z h1 h2 => ?_⟩ hW.alike
      · rw [hhf]
        exact hw.2.2.1.kept (fun k9 z hk9 => hold z.1 ((hw.2.2.1 k9 z hk9).lt))
      · rw [hold z (Nat.lt_of_lt_of_le h1 hw.2.2.2.2.1)]
        exact hw.2.2.2.2.2.1 z h1 h2
    · rw [f1, f2, show h.2.1 + 1 - x.c0 = h.2.1 - x.c0 + 1 by omega, show h.2.2 + 6 - x.s0 = h.2.2 - x.s0 + 6 by omega]
      exact hsame
  · cases e
end
section
-- ===== PART A: goes FIRST, ahead of the names: the tables' words, and 'selects' of the private methods out of them =====
/-- a private method of a class that the tables say can be made, by its rows of tables_1 -/
def lw_okq (q : MethodName × Nat) : Prop := (q.1.cls ≠ "java/lang/invoke/MethodHandle" ∧ q.1.cls ≠ "java/lang/invoke/VarHandle") ∧ Cond.instantiable q.1.cls q.2 ∈ tables_1 ∧ Cond.privateMethod q.1 ∈ tables_1 ∧ Cond.instanceMethod q.1 ∈ tables_1
theorem lw_p0 : lw_okq (⟨"java/lang/Throwable", "fillInStackTrace", "(I)Ljava/lang/Throwable;"⟩, 6) := ⟨⟨by decide +kernel, by decide +kernel⟩, List.mem_of_getElem? (i := 296) (by decide +kernel), List.mem_of_getElem? (i := 294) (by decide +kernel), List.mem_of_getElem? (i := 295) (by decide +kernel)⟩
theorem lw_p1 : lw_okq (⟨"TokenScanner$Reader", "skipToToken", "()Z"⟩, 6) := ⟨⟨by decide +kernel, by decide +kernel⟩, List.mem_of_getElem? (i := 98) (by decide +kernel), List.mem_of_getElem? (i := 377) (by decide +kernel), List.mem_of_getElem? (i := 378) (by decide +kernel)⟩
theorem lw_p2 : lw_okq (⟨"TokenScanner$Reader", "skipLineComment", "()V"⟩, 6) := ⟨⟨by decide +kernel, by decide +kernel⟩, List.mem_of_getElem? (i := 98) (by decide +kernel), List.mem_of_getElem? (i := 392) (by decide +kernel), List.mem_of_getElem? (i := 393) (by decide +kernel)⟩
theorem lw_p3 : lw_okq (⟨"TokenScanner$Reader", "skipBlockComment", "()Z"⟩, 6) := ⟨⟨by decide +kernel, by decide +kernel⟩, List.mem_of_getElem? (i := 98) (by decide +kernel), List.mem_of_getElem? (i := 396) (by decide +kernel), List.mem_of_getElem? (i := 397) (by decide +kernel)⟩
theorem lw_p4 : lw_okq (⟨"TokenScanner$Reader", "refuse", "(I)Z"⟩, 6) := ⟨⟨by decide +kernel, by decide +kernel⟩, List.mem_of_getElem? (i := 98) (by decide +kernel), List.mem_of_getElem? (i := 400) (by decide +kernel), List.mem_of_getElem? (i := 401) (by decide +kernel)⟩
theorem lw_p5 : lw_okq (⟨"TokenScanner$Reader", "readName", "()Z"⟩, 6) := ⟨⟨by decide +kernel, by decide +kernel⟩, List.mem_of_getElem? (i := 98) (by decide +kernel), List.mem_of_getElem? (i := 407) (by decide +kernel), List.mem_of_getElem? (i := 408) (by decide +kernel)⟩
theorem lw_p6 : lw_okq (⟨"TokenScanner$Reader", "readNameEscape", "()Z"⟩, 6) := ⟨⟨by decide +kernel, by decide +kernel⟩, List.mem_of_getElem? (i := 98) (by decide +kernel), List.mem_of_getElem? (i := 411) (by decide +kernel), List.mem_of_getElem? (i := 412) (by decide +kernel)⟩
theorem lw_p7 : lw_okq (⟨"TokenScanner$Reader", "readHex", "(I)I"⟩, 6) := ⟨⟨by decide +kernel, by decide +kernel⟩, List.mem_of_getElem? (i := 98) (by decide +kernel), List.mem_of_getElem? (i := 415) (by decide +kernel), List.mem_of_getElem? (i := 416) (by decide +kernel)⟩
theorem lw_p8 : lw_okq (⟨"TokenScanner$Spellings", "isOf", "(ILTokenScanner$Token;)Z"⟩, 2) := ⟨⟨by decide +kernel, by decide +kernel⟩, List.mem_of_getElem? (i := 104) (by decide +kernel), List.mem_of_getElem? (i := 437) (by decide +kernel), List.mem_of_getElem? (i := 438) (by decide +kernel)⟩
theorem lw_p9 : lw_okq (⟨"TokenScanner$Reader", "readNumber", "()Z"⟩, 6) := ⟨⟨by decide +kernel, by decide +kernel⟩, List.mem_of_getElem? (i := 98) (by decide +kernel), List.mem_of_getElem? (i := 446) (by decide +kernel), List.mem_of_getElem? (i := 447) (by decide +kernel)⟩
theorem lw_p10 : lw_okq (⟨"TokenScanner$Reader", "skipHexNumber", "()Z"⟩, 6) := ⟨⟨by decide +kernel, by decide +kernel⟩, List.mem_of_getElem? (i := 98) (by decide +kernel), List.mem_of_getElem? (i := 450) (by decide +kernel), List.mem_of_getElem? (i := 451) (by decide +kernel)⟩
theorem lw_p11 : lw_okq (⟨"TokenScanner$Reader", "skipDecimalNumber", "()Z"⟩, 6) := ⟨⟨by decide +kernel, by decide +kernel⟩, List.mem_of_getElem? (i := 98) (by decide +kernel), List.mem_of_getElem? (i := 454) (by decide +kernel), List.mem_of_getElem? (i := 455) (by decide +kernel)⟩
theorem lw_p12 : lw_okq (⟨"TokenScanner$Reader", "skipDigits", "()V"⟩, 6) := ⟨⟨by decide +kernel, by decide +kernel⟩, List.mem_of_getElem? (i := 98) (by decide +kernel), List.mem_of_getElem? (i := 458) (by decide +kernel), List.mem_of_getElem? (i := 459) (by decide +kernel)⟩
theorem lw_p13 : lw_okq (⟨"TokenScanner$Reader", "skipExponent", "()Z"⟩, 6) := ⟨⟨by decide +kernel, by decide +kernel⟩, List.mem_of_getElem? (i := 98) (by decide +kernel), List.mem_of_getElem? (i := 462) (by decide +kernel), List.mem_of_getElem? (i := 463) (by decide +kernel)⟩
theorem lw_p14 : lw_okq (⟨"TokenScanner$Reader", "takeBytesAsUnits", "()V"⟩, 6) := ⟨⟨by decide +kernel, by decide +kernel⟩, List.mem_of_getElem? (i := 98) (by decide +kernel), List.mem_of_getElem? (i := 466) (by decide +kernel), List.mem_of_getElem? (i := 467) (by decide +kernel)⟩
theorem lw_p15 : lw_okq (⟨"TokenScanner$Reader", "readText", "(I)Z"⟩, 6) := ⟨⟨by decide +kernel, by decide +kernel⟩, List.mem_of_getElem? (i := 98) (by decide +kernel), List.mem_of_getElem? (i := 470) (by decide +kernel), List.mem_of_getElem? (i := 471) (by decide +kernel)⟩
def lw_privs_1 : List (MethodName × Nat) := [(⟨"java/lang/Throwable", "fillInStackTrace", "(I)Ljava/lang/Throwable;"⟩, 6), (⟨"TokenScanner$Reader", "skipToToken", "()Z"⟩, 6), (⟨"TokenScanner$Reader", "skipLineComment", "()V"⟩, 6), (⟨"TokenScanner$Reader", "skipBlockComment", "()Z"⟩, 6), (⟨"TokenScanner$Reader", "refuse", "(I)Z"⟩, 6), (⟨"TokenScanner$Reader", "readName", "()Z"⟩, 6), (⟨"TokenScanner$Reader", "readNameEscape", "()Z"⟩, 6), (⟨"TokenScanner$Reader", "readHex", "(I)I"⟩, 6), (⟨"TokenScanner$Spellings", "isOf", "(ILTokenScanner$Token;)Z"⟩, 2), (⟨"TokenScanner$Reader", "readNumber", "()Z"⟩, 6), (⟨"TokenScanner$Reader", "skipHexNumber", "()Z"⟩, 6), (⟨"TokenScanner$Reader", "skipDecimalNumber", "()Z"⟩, 6), (⟨"TokenScanner$Reader", "skipDigits", "()V"⟩, 6), (⟨"TokenScanner$Reader", "skipExponent", "()Z"⟩, 6), (⟨"TokenScanner$Reader", "takeBytesAsUnits", "()V"⟩, 6), (⟨"TokenScanner$Reader", "readText", "(I)Z"⟩, 6)]
theorem lw_r1 : ∀ q ∈ lw_privs_1, lw_okq q := List.forall_mem_cons.mpr ⟨lw_p0, List.forall_mem_cons.mpr ⟨lw_p1, List.forall_mem_cons.mpr ⟨lw_p2, List.forall_mem_cons.mpr ⟨lw_p3, List.forall_mem_cons.mpr ⟨lw_p4, List.forall_mem_cons.mpr ⟨lw_p5, List.forall_mem_cons.mpr ⟨lw_p6, List.forall_mem_cons.mpr ⟨lw_p7, List.forall_mem_cons.mpr ⟨lw_p8, List.forall_mem_cons.mpr ⟨lw_p9, List.forall_mem_cons.mpr ⟨lw_p10, List.forall_mem_cons.mpr ⟨lw_p11, List.forall_mem_cons.mpr ⟨lw_p12, List.forall_mem_cons.mpr ⟨lw_p13, List.forall_mem_cons.mpr ⟨lw_p14, List.forall_mem_cons.mpr ⟨lw_p15, fun _ h => absurd h List.not_mem_nil⟩⟩⟩⟩⟩⟩⟩⟩⟩⟩⟩⟩⟩⟩⟩⟩
theorem lw_p16 : lw_okq (⟨"TokenScanner$Reader", "readTextEscape", "()Z"⟩, 6) := ⟨⟨by decide +kernel, by decide +kernel⟩, List.mem_of_getElem? (i := 98) (by decide +kernel), List.mem_of_getElem? (i := 474) (by decide +kernel), List.mem_of_getElem? (i := 475) (by decide +kernel)⟩
theorem lw_p17 : lw_okq (⟨"TokenScanner$Reader", "readZeroEscape", "()Z"⟩, 6) := ⟨⟨by decide +kernel, by decide +kernel⟩, List.mem_of_getElem? (i := 98) (by decide +kernel), List.mem_of_getElem? (i := 478) (by decide +kernel), List.mem_of_getElem? (i := 479) (by decide +kernel)⟩
theorem lw_p18 : lw_okq (⟨"TokenScanner$Reader", "skipSecondOfLineEnd", "(I)V"⟩, 6) := ⟨⟨by decide +kernel, by decide +kernel⟩, List.mem_of_getElem? (i := 98) (by decide +kernel), List.mem_of_getElem? (i := 482) (by decide +kernel), List.mem_of_getElem? (i := 483) (by decide +kernel)⟩
theorem lw_p19 : lw_okq (⟨"TokenScanner$Reader", "readSign", "()Z"⟩, 6) := ⟨⟨by decide +kernel, by decide +kernel⟩, List.mem_of_getElem? (i := 98) (by decide +kernel), List.mem_of_getElem? (i := 489) (by decide +kernel), List.mem_of_getElem? (i := 490) (by decide +kernel)⟩
theorem lw_p20 : lw_okq (⟨"TokenScanner$Spellings", "standsAt", "(ILTokenScanner$Source;I)Z"⟩, 2) := ⟨⟨by decide +kernel, by decide +kernel⟩, List.mem_of_getElem? (i := 104) (by decide +kernel), List.mem_of_getElem? (i := 497) (by decide +kernel), List.mem_of_getElem? (i := 498) (by decide +kernel)⟩
theorem lw_p21 : lw_okq (⟨"TokenScanner", "kindUnlessRefused", "(Z)I"⟩, 7) := ⟨⟨by decide +kernel, by decide +kernel⟩, List.mem_of_getElem? (i := 23) (by decide +kernel), List.mem_of_getElem? (i := 505) (by decide +kernel), List.mem_of_getElem? (i := 506) (by decide +kernel)⟩
theorem lw_p22 : lw_okq (⟨"TokenScanner", "useUp", "()V"⟩, 7) := ⟨⟨by decide +kernel, by decide +kernel⟩, List.mem_of_getElem? (i := 23) (by decide +kernel), List.mem_of_getElem? (i := 509) (by decide +kernel), List.mem_of_getElem? (i := 510) (by decide +kernel)⟩
theorem lw_p23 : lw_okq (⟨"TokenScanner$Reader", "skipPatternBody", "()Z"⟩, 6) := ⟨⟨by decide +kernel, by decide +kernel⟩, List.mem_of_getElem? (i := 98) (by decide +kernel), List.mem_of_getElem? (i := 538) (by decide +kernel), List.mem_of_getElem? (i := 539) (by decide +kernel)⟩
theorem lw_p24 : lw_okq (⟨"TokenScanner$Shelf", "startOf", "(I)I"⟩, 3) := ⟨⟨by decide +kernel, by decide +kernel⟩, List.mem_of_getElem? (i := 204) (by decide +kernel), List.mem_of_getElem? (i := 616) (by decide +kernel), List.mem_of_getElem? (i := 617) (by decide +kernel)⟩
theorem lw_p25 : lw_okq (⟨"TokenScanner$Shelf", "startsWith", "(I[II)Z"⟩, 3) := ⟨⟨by decide +kernel, by decide +kernel⟩, List.mem_of_getElem? (i := 204) (by decide +kernel), List.mem_of_getElem? (i := 620) (by decide +kernel), List.mem_of_getElem? (i := 621) (by decide +kernel)⟩
theorem lw_p26 : lw_okq (⟨"TokenScannerModel", "throwing", "(ZZ)Z"⟩, 21) := ⟨⟨by decide +kernel, by decide +kernel⟩, List.mem_of_getElem? (i := 662) (by decide +kernel), List.mem_of_getElem? (i := 740) (by decide +kernel), List.mem_of_getElem? (i := 741) (by decide +kernel)⟩
theorem lw_p27 : lw_okq (⟨"TokenScannerModel", "readToken", "()I"⟩, 21) := ⟨⟨by decide +kernel, by decide +kernel⟩, List.mem_of_getElem? (i := 662) (by decide +kernel), List.mem_of_getElem? (i := 749) (by decide +kernel), List.mem_of_getElem? (i := 750) (by decide +kernel)⟩
theorem lw_p28 : lw_okq (⟨"TokenScannerModel", "skip", "()V"⟩, 21) := ⟨⟨by decide +kernel, by decide +kernel⟩, List.mem_of_getElem? (i := 662) (by decide +kernel), List.mem_of_getElem? (i := 753) (by decide +kernel), List.mem_of_getElem? (i := 754) (by decide +kernel)⟩
theorem lw_p29 : lw_okq (⟨"TokenScannerModel", "see", "(I)I"⟩, 21) := ⟨⟨by decide +kernel, by decide +kernel⟩, List.mem_of_getElem? (i := 662) (by decide +kernel), List.mem_of_getElem? (i := 757) (by decide +kernel), List.mem_of_getElem? (i := 758) (by decide +kernel)⟩
theorem lw_p30 : lw_okq (⟨"TokenScannerModel", "behindComment", "(I)I"⟩, 21) := ⟨⟨by decide +kernel, by decide +kernel⟩, List.mem_of_getElem? (i := 662) (by decide +kernel), List.mem_of_getElem? (i := 767) (by decide +kernel), List.mem_of_getElem? (i := 768) (by decide +kernel)⟩
theorem lw_p31 : lw_okq (⟨"TokenScannerModel", "fail", "(I)V"⟩, 21) := ⟨⟨by decide +kernel, by decide +kernel⟩, List.mem_of_getElem? (i := 662) (by decide +kernel), List.mem_of_getElem? (i := 771) (by decide +kernel), List.mem_of_getElem? (i := 772) (by decide +kernel)⟩
def lw_privs_2 : List (MethodName × Nat) := [(⟨"TokenScanner$Reader", "readTextEscape", "()Z"⟩, 6), (⟨"TokenScanner$Reader", "readZeroEscape", "()Z"⟩, 6), (⟨"TokenScanner$Reader", "skipSecondOfLineEnd", "(I)V"⟩, 6), (⟨"TokenScanner$Reader", "readSign", "()Z"⟩, 6), (⟨"TokenScanner$Spellings", "standsAt", "(ILTokenScanner$Source;I)Z"⟩, 2), (⟨"TokenScanner", "kindUnlessRefused", "(Z)I"⟩, 7), (⟨"TokenScanner", "useUp", "()V"⟩, 7), (⟨"TokenScanner$Reader", "skipPatternBody", "()Z"⟩, 6), (⟨"TokenScanner$Shelf", "startOf", "(I)I"⟩, 3), (⟨"TokenScanner$Shelf", "startsWith", "(I[II)Z"⟩, 3), (⟨"TokenScannerModel", "throwing", "(ZZ)Z"⟩, 21), (⟨"TokenScannerModel", "readToken", "()I"⟩, 21), (⟨"TokenScannerModel", "skip", "()V"⟩, 21), (⟨"TokenScannerModel", "see", "(I)I"⟩, 21), (⟨"TokenScannerModel", "behindComment", "(I)I"⟩, 21), (⟨"TokenScannerModel", "fail", "(I)V"⟩, 21)]
theorem lw_r2 : ∀ q ∈ lw_privs_2, lw_okq q := List.forall_mem_cons.mpr ⟨lw_p16, List.forall_mem_cons.mpr ⟨lw_p17, List.forall_mem_cons.mpr ⟨lw_p18, List.forall_mem_cons.mpr ⟨lw_p19, List.forall_mem_cons.mpr ⟨lw_p20, List.forall_mem_cons.mpr ⟨lw_p21, List.forall_mem_cons.mpr ⟨lw_p22, List.forall_mem_cons.mpr ⟨lw_p23, List.forall_mem_cons.mpr ⟨lw_p24, List.forall_mem_cons.mpr ⟨lw_p25, List.forall_mem_cons.mpr ⟨lw_p26, List.forall_mem_cons.mpr ⟨lw_p27, List.forall_mem_cons.mpr ⟨lw_p28, List.forall_mem_cons.mpr ⟨lw_p29, List.forall_mem_cons.mpr ⟨lw_p30, List.forall_mem_cons.mpr ⟨lw_p31, fun _ h => absurd h List.not_mem_nil⟩⟩⟩⟩⟩⟩⟩⟩⟩⟩⟩⟩⟩⟩⟩⟩
theorem lw_p32 : lw_okq (⟨"TokenScannerModel", "done", "()I"⟩, 21) := ⟨⟨by decide +kernel, by decide +kernel⟩, List.mem_of_getElem? (i := 662) (by decide +kernel), List.mem_of_getElem? (i := 775) (by decide +kernel), List.mem_of_getElem? (i := 776) (by decide +kernel)⟩
theorem lw_p33 : lw_okq (⟨"TokenScannerModel", "readName", "()V"⟩, 21) := ⟨⟨by decide +kernel, by decide +kernel⟩, List.mem_of_getElem? (i := 662) (by decide +kernel), List.mem_of_getElem? (i := 782) (by decide +kernel), List.mem_of_getElem? (i := 783) (by decide +kernel)⟩
theorem lw_p34 : lw_okq (⟨"TokenScannerModel", "digits", "(II)I"⟩, 21) := ⟨⟨by decide +kernel, by decide +kernel⟩, List.mem_of_getElem? (i := 662) (by decide +kernel), List.mem_of_getElem? (i := 786) (by decide +kernel), List.mem_of_getElem? (i := 787) (by decide +kernel)⟩
theorem lw_p35 : lw_okq (⟨"TokenScannerModel", "add", "(I)V"⟩, 21) := ⟨⟨by decide +kernel, by decide +kernel⟩, List.mem_of_getElem? (i := 662) (by decide +kernel), List.mem_of_getElem? (i := 796) (by decide +kernel), List.mem_of_getElem? (i := 797) (by decide +kernel)⟩
theorem lw_p36 : lw_okq (⟨"TokenScannerModel", "wordOf", "()I"⟩, 21) := ⟨⟨by decide +kernel, by decide +kernel⟩, List.mem_of_getElem? (i := 662) (by decide +kernel), List.mem_of_getElem? (i := 800) (by decide +kernel), List.mem_of_getElem? (i := 801) (by decide +kernel)⟩
theorem lw_p37 : lw_okq (⟨"TokenScannerModel", "isText", "(Ljava/lang/String;)Z"⟩, 21) := ⟨⟨by decide +kernel, by decide +kernel⟩, List.mem_of_getElem? (i := 662) (by decide +kernel), List.mem_of_getElem? (i := 853) (by decide +kernel), List.mem_of_getElem? (i := 854) (by decide +kernel)⟩
theorem lw_p38 : lw_okq (⟨"TokenScannerModel", "readNumber", "()V"⟩, 21) := ⟨⟨by decide +kernel, by decide +kernel⟩, List.mem_of_getElem? (i := 662) (by decide +kernel), List.mem_of_getElem? (i := 859) (by decide +kernel), List.mem_of_getElem? (i := 860) (by decide +kernel)⟩
theorem lw_p39 : lw_okq (⟨"TokenScannerModel", "readDecimal", "()V"⟩, 21) := ⟨⟨by decide +kernel, by decide +kernel⟩, List.mem_of_getElem? (i := 662) (by decide +kernel), List.mem_of_getElem? (i := 863) (by decide +kernel), List.mem_of_getElem? (i := 864) (by decide +kernel)⟩
theorem lw_p40 : lw_okq (⟨"TokenScannerModel", "readDigits", "()V"⟩, 21) := ⟨⟨by decide +kernel, by decide +kernel⟩, List.mem_of_getElem? (i := 662) (by decide +kernel), List.mem_of_getElem? (i := 867) (by decide +kernel), List.mem_of_getElem? (i := 868) (by decide +kernel)⟩
theorem lw_p41 : lw_okq (⟨"TokenScannerModel", "readText", "()V"⟩, 21) := ⟨⟨by decide +kernel, by decide +kernel⟩, List.mem_of_getElem? (i := 662) (by decide +kernel), List.mem_of_getElem? (i := 871) (by decide +kernel), List.mem_of_getElem? (i := 872) (by decide +kernel)⟩
theorem lw_p42 : lw_okq (⟨"TokenScannerModel", "readEscape", "()V"⟩, 21) := ⟨⟨by decide +kernel, by decide +kernel⟩, List.mem_of_getElem? (i := 662) (by decide +kernel), List.mem_of_getElem? (i := 875) (by decide +kernel), List.mem_of_getElem? (i := 876) (by decide +kernel)⟩
theorem lw_p43 : lw_okq (⟨"TokenScannerModel", "readSign", "()V"⟩, 21) := ⟨⟨by decide +kernel, by decide +kernel⟩, List.mem_of_getElem? (i := 662) (by decide +kernel), List.mem_of_getElem? (i := 879) (by decide +kernel), List.mem_of_getElem? (i := 880) (by decide +kernel)⟩
theorem lw_p44 : lw_okq (⟨"TokenScannerModel", "lengthOf", "(I)I"⟩, 21) := ⟨⟨by decide +kernel, by decide +kernel⟩, List.mem_of_getElem? (i := 662) (by decide +kernel), List.mem_of_getElem? (i := 883) (by decide +kernel), List.mem_of_getElem? (i := 884) (by decide +kernel)⟩
theorem lw_p45 : lw_okq (⟨"TokenScannerModel", "readPattern", "()V"⟩, 21) := ⟨⟨by decide +kernel, by decide +kernel⟩, List.mem_of_getElem? (i := 662) (by decide +kernel), List.mem_of_getElem? (i := 938) (by decide +kernel), List.mem_of_getElem? (i := 939) (by decide +kernel)⟩
theorem lw_p46 : lw_okq (⟨"TokenScannerModel", "isName", "(I)Z"⟩, 21) := ⟨⟨by decide +kernel, by decide +kernel⟩, List.mem_of_getElem? (i := 662) (by decide +kernel), List.mem_of_getElem? (i := 963) (by decide +kernel), List.mem_of_getElem? (i := 964) (by decide +kernel)⟩
def lw_privs_3 : List (MethodName × Nat) := [(⟨"TokenScannerModel", "done", "()I"⟩, 21), (⟨"TokenScannerModel", "readName", "()V"⟩, 21), (⟨"TokenScannerModel", "digits", "(II)I"⟩, 21), (⟨"TokenScannerModel", "add", "(I)V"⟩, 21), (⟨"TokenScannerModel", "wordOf", "()I"⟩, 21), (⟨"TokenScannerModel", "isText", "(Ljava/lang/String;)Z"⟩, 21), (⟨"TokenScannerModel", "readNumber", "()V"⟩, 21), (⟨"TokenScannerModel", "readDecimal", "()V"⟩, 21), (⟨"TokenScannerModel", "readDigits", "()V"⟩, 21), (⟨"TokenScannerModel", "readText", "()V"⟩, 21), (⟨"TokenScannerModel", "readEscape", "()V"⟩, 21), (⟨"TokenScannerModel", "readSign", "()V"⟩, 21), (⟨"TokenScannerModel", "lengthOf", "(I)I"⟩, 21), (⟨"TokenScannerModel", "readPattern", "()V"⟩, 21), (⟨"TokenScannerModel", "isName", "(I)Z"⟩, 21)]
theorem lw_r3 : ∀ q ∈ lw_privs_3, lw_okq q := List.forall_mem_cons.mpr ⟨lw_p32, List.forall_mem_cons.mpr ⟨lw_p33, List.forall_mem_cons.mpr ⟨lw_p34, List.forall_mem_cons.mpr ⟨lw_p35, List.forall_mem_cons.mpr ⟨lw_p36, List.forall_mem_cons.mpr ⟨lw_p37, List.forall_mem_cons.mpr ⟨lw_p38, List.forall_mem_cons.mpr ⟨lw_p39, List.forall_mem_cons.mpr ⟨lw_p40, List.forall_mem_cons.mpr ⟨lw_p41, List.forall_mem_cons.mpr ⟨lw_p42, List.forall_mem_cons.mpr ⟨lw_p43, List.forall_mem_cons.mpr ⟨lw_p44, List.forall_mem_cons.mpr ⟨lw_p45, List.forall_mem_cons.mpr ⟨lw_p46, fun _ h => absurd h List.not_mem_nil⟩⟩⟩⟩⟩⟩⟩⟩⟩⟩⟩⟩⟩⟩⟩
def lw_privs : List (MethodName × Nat) := lw_privs_1 ++ (lw_privs_2 ++ (lw_privs_3))
def lw_tbl : List Cond := k2_sels lw_privs ++ tables_1
theorem lw_privs_ok : ∀ q ∈ lw_privs, lw_okq q := by
  show ∀ q ∈ lw_privs_1 ++ (lw_privs_2 ++ (lw_privs_3)), lw_okq q
  exact List.forall_mem_append.mpr ⟨lw_r1, List.forall_mem_append.mpr ⟨lw_r2, lw_r3⟩⟩
end
section
/-! the words that ride along -/
def mg_ok : Cond → Bool
  | .fieldLinkNest .. => true
  | .methodLinkNest .. => true
  | .arrayClass _ => true
  | .castable .. => true
  | w => w.onTables && w.keeps
theorem mg_cast {A B : String} {a a' : Array Value} {s U : State} (hvm : s.vm.Alike U.vm) (h : (Cond.castable A B).before a s = true) : (Cond.castable A B).before a' U = true := by
  obtain ⟨c, t, h1, h2, h3⟩ := Cond.castable_spec h
  simp [Cond.before, Cond.holds, Cond.value, hvm.findClass, h1, h2, hvm.assignable, h3]
def mg_G : List Cond := lw_tbl.filter mg_ok
theorem mg_ride {w : Cond} (hk : mg_ok w = true) {a a' : Array Value} {s U : State} (hW : s.WarmedH U.vm) (h : w.before a s = true) : w.before a' U = true := by
  unfold mg_ok at hk
  split at hk
  · exact va_Nw.use rfl (va_Nw.warmF hW (va_Nw.of rfl h))
  · exact va_Nw.use rfl (va_Nw.warmM hW (va_Nw.of rfl h))
  · exact word_at hW (Or.inr ⟨_, rfl⟩) h
  · exact mg_cast hW.alike h
  · exact word_at hW (Or.inl hk) h
theorem mg_in {w : Cond} (hw : w ∈ tables_1) (hk : mg_ok w = true) : w ∈ mg_G := List.mem_filter.mpr ⟨List.mem_append_right _ hw, hk⟩
theorem mg_t1 {w : Cond} (i : Nat) (h : tables_1_1[i]? = some w) (hk : mg_ok w = true) : w ∈ mg_G := mg_in (List.mem_append_left _ (List.mem_of_getElem? h)) hk
theorem mg_t2 {w : Cond} (i : Nat) (h : tables_1_2[i]? = some w) (hk : mg_ok w = true) : w ∈ mg_G := mg_in (List.mem_append_right _ (List.mem_append_left _ (List.mem_of_getElem? h))) hk
theorem mg_t3 {w : Cond} (i : Nat) (h : tables_1_3[i]? = some w) (hk : mg_ok w = true) : w ∈ mg_G := mg_in (List.mem_append_right _ (List.mem_append_right _ (List.mem_append_left _ (List.mem_of_getElem? h)))) hk
theorem mg_t4 {w : Cond} (i : Nat) (h : tables_1_4[i]? = some w) (hk : mg_ok w = true) : w ∈ mg_G := mg_in (List.mem_append_right _ (List.mem_append_right _ (List.mem_append_right _ (List.mem_append_left _ (List.mem_of_getElem? h))))) hk
theorem mg_t5 {w : Cond} (i : Nat) (h : tables_1_5[i]? = some w) (hk : mg_ok w = true) : w ∈ mg_G := mg_in (List.mem_append_right _ (List.mem_append_right _ (List.mem_append_right _ (List.mem_append_right _ (List.mem_of_getElem? h))))) hk
theorem mg_sel {w : Cond} (i : Nat) (h : (k2_sels lw_privs)[i]? = some w) (hk : mg_ok w = true) : w ∈ mg_G := List.mem_filter.mpr ⟨List.mem_append_left _ (List.mem_of_getElem? h), hk⟩
theorem hw_0 : (Cond.initialized "TokenScannerLaw") ∈ mg_G := mg_t1 0 rfl rfl
theorem hw_1 : (Cond.initialized "TokenScanner") ∈ mg_G := mg_t1 1 rfl rfl
theorem hw_2 : (Cond.initialized "TokenScanner$Source") ∈ mg_G := mg_t1 2 rfl rfl
theorem hw_3 : (Cond.initialized "TokenScanner$Token") ∈ mg_G := mg_t1 3 rfl rfl
theorem hw_4 : (Cond.initialized "TokenScanner$Reader") ∈ mg_G := mg_t1 4 rfl rfl
theorem hw_5 : (Cond.initialized "TokenScanner$Spellings") ∈ mg_G := mg_t1 5 rfl rfl
theorem hw_6 : (Cond.initialized "java/lang/String") ∈ mg_G := mg_t1 6 rfl rfl
theorem hw_7 : (Cond.initialized "java/lang/StringLatin1") ∈ mg_G := mg_t1 7 rfl rfl
theorem hw_8 : (Cond.initialized "jdk/internal/util/Preconditions") ∈ mg_G := mg_t1 8 rfl rfl
theorem hw_10 : (Cond.initialized "java/util/Arrays") ∈ mg_G := mg_t1 10 rfl rfl
theorem hw_11 : (Cond.initialized "java/lang/Math") ∈ mg_G := mg_t1 11 rfl rfl
theorem hw_12 : (Cond.initialized "java/lang/System") ∈ mg_G := mg_t1 12 rfl rfl
theorem hw_13 : (Cond.initialized "TokenScanner$Shelf") ∈ mg_G := mg_t1 13 rfl rfl
theorem hw_14 : (Cond.initialized "TokenScannerModel") ∈ mg_G := mg_t1 14 rfl rfl
theorem hw_18 : (Cond.initialized "java/lang/IllegalArgumentException") ∈ mg_G := mg_t1 18 rfl rfl
theorem hw_19 : (Cond.initialized "java/lang/IllegalStateException") ∈ mg_G := mg_t1 19 rfl rfl
theorem hw_20 : (Cond.initialized "TokenScanner$Units") ∈ mg_G := mg_t1 20 rfl rfl
theorem hw_21 : (Cond.initialized "java/lang/IndexOutOfBoundsException") ∈ mg_G := mg_t1 21 rfl rfl
theorem hw_22 : (Cond.classLink "TokenScannerLaw" 8 "TokenScanner") ∈ mg_G := mg_t1 22 rfl rfl
theorem hw_23 : (Cond.instantiable "TokenScanner" 7) ∈ mg_G := mg_t1 23 rfl rfl
theorem hw_24 : (Cond.methodLink "TokenScannerLaw" 49 ⟨"TokenScanner", "<init>", "()V"⟩) ∈ mg_G := mg_t1 24 rfl rfl
theorem hw_25 : (Cond.instanceMethod ⟨"TokenScanner", "<init>", "()V"⟩) ∈ mg_G := mg_t1 25 rfl rfl
theorem hw_26 : (Cond.code ⟨"TokenScanner", "<init>", "()V"⟩ prog_1_method_1_code 1 none) ∈ mg_G := mg_t1 26 rfl rfl
theorem hw_27 : (Cond.methodLink "TokenScanner" 1 ⟨"java/lang/Object", "<init>", "()V"⟩) ∈ mg_G := mg_t1 27 rfl rfl
theorem hw_28 : (Cond.instanceMethod ⟨"java/lang/Object", "<init>", "()V"⟩) ∈ mg_G := mg_t1 28 rfl rfl
theorem hw_29 : (Cond.code ⟨"java/lang/Object", "<init>", "()V"⟩ object_method_1_code 1 none) ∈ mg_G := mg_t1 29 rfl rfl
theorem hw_30 : (Cond.classLink "TokenScanner" 7 "TokenScanner$Source") ∈ mg_G := mg_t1 30 rfl rfl
theorem hw_31 : (Cond.instantiable "TokenScanner$Source" 2) ∈ mg_G := mg_t1 31 rfl rfl
theorem hw_32 : (Cond.methodLinkNest "TokenScanner" 9 ⟨"TokenScanner$Source", "<init>", "()V"⟩ "TokenScanner") ∈ mg_G := mg_t1 32 rfl rfl
theorem hw_33 : (Cond.instanceMethod ⟨"TokenScanner$Source", "<init>", "()V"⟩) ∈ mg_G := mg_t1 33 rfl rfl
theorem hw_34 : (Cond.code ⟨"TokenScanner$Source", "<init>", "()V"⟩ prog_4_method_1_code 1 none) ∈ mg_G := mg_t1 34 rfl rfl
theorem hw_35 : (Cond.methodLink "TokenScanner$Source" 3 ⟨"java/lang/Object", "<init>", "()V"⟩) ∈ mg_G := mg_t1 35 rfl rfl
theorem hw_36 : (Cond.fieldLink "TokenScanner$Source" 9 "TokenScanner$Source" "bytes" "[I") ∈ mg_G := mg_t1 36 rfl rfl
theorem hw_37 : (Cond.fieldLink "TokenScanner$Source" 15 "TokenScanner$Source" "count" "I") ∈ mg_G := mg_t1 37 rfl rfl
theorem hw_38 : (Cond.laysFinal "TokenScanner$Source" "TokenScanner$Source" "bytes" "[I") ∈ mg_G := mg_t1 38 rfl rfl
theorem hw_40 : (Cond.lays "TokenScanner$Source" "TokenScanner$Source" "count" "I") ∈ mg_G := mg_t1 40 rfl rfl
theorem hw_43 : (Cond.arrayClass .int) ∈ mg_G := mg_t1 43 rfl rfl
theorem hw_44 : (Cond.classLink "TokenScanner" 16 "TokenScanner$Token") ∈ mg_G := mg_t1 44 rfl rfl
theorem hw_45 : (Cond.instantiable "TokenScanner$Token" 9) ∈ mg_G := mg_t1 45 rfl rfl
theorem hw_46 : (Cond.methodLinkNest "TokenScanner" 18 ⟨"TokenScanner$Token", "<init>", "()V"⟩ "TokenScanner") ∈ mg_G := mg_t1 46 rfl rfl
theorem hw_47 : (Cond.instanceMethod ⟨"TokenScanner$Token", "<init>", "()V"⟩) ∈ mg_G := mg_t1 47 rfl rfl
theorem hw_48 : (Cond.code ⟨"TokenScanner$Token", "<init>", "()V"⟩ prog_6_method_1_code 1 none) ∈ mg_G := mg_t1 48 rfl rfl
theorem hw_49 : (Cond.methodLink "TokenScanner$Token" 3 ⟨"java/lang/Object", "<init>", "()V"⟩) ∈ mg_G := mg_t1 49 rfl rfl
theorem hw_50 : (Cond.fieldLink "TokenScanner$Token" 15 "TokenScanner$Token" "kind" "I") ∈ mg_G := mg_t1 50 rfl rfl
theorem hw_51 : (Cond.fieldLinkNest "TokenScanner$Reader" 83 "TokenScanner$Token" "kind" "I" "TokenScanner") ∈ mg_G := mg_t1 51 rfl rfl
theorem hw_52 : (Cond.fieldLinkNest "TokenScanner" 92 "TokenScanner$Token" "kind" "I" "TokenScanner") ∈ mg_G := mg_t1 52 rfl rfl
theorem hw_53 : (Cond.fieldLink "TokenScanner$Token" 19 "TokenScanner$Token" "first" "I") ∈ mg_G := mg_t1 53 rfl rfl
theorem hw_54 : (Cond.fieldLinkNest "TokenScanner$Reader" 51 "TokenScanner$Token" "first" "I" "TokenScanner") ∈ mg_G := mg_t1 54 rfl rfl
theorem hw_55 : (Cond.fieldLinkNest "TokenScanner" 112 "TokenScanner$Token" "first" "I" "TokenScanner") ∈ mg_G := mg_t1 55 rfl rfl
theorem hw_56 : (Cond.fieldLink "TokenScanner$Token" 22 "TokenScanner$Token" "behind" "I") ∈ mg_G := mg_t1 56 rfl rfl
theorem hw_57 : (Cond.fieldLinkNest "TokenScanner$Reader" 80 "TokenScanner$Token" "behind" "I" "TokenScanner") ∈ mg_G := mg_t1 57 rfl rfl
theorem hw_58 : (Cond.fieldLinkNest "TokenScanner" 115 "TokenScanner$Token" "behind" "I" "TokenScanner") ∈ mg_G := mg_t1 58 rfl rfl
theorem hw_59 : (Cond.fieldLink "TokenScanner$Token" 25 "TokenScanner$Token" "lineEndsBefore" "Z") ∈ mg_G := mg_t1 59 rfl rfl
theorem hw_60 : (Cond.fieldLinkNest "TokenScanner$Reader" 111 "TokenScanner$Token" "lineEndsBefore" "Z" "TokenScanner") ∈ mg_G := mg_t1 60 rfl rfl
theorem hw_61 : (Cond.fieldLinkNest "TokenScanner" 118 "TokenScanner$Token" "lineEndsBefore" "Z" "TokenScanner") ∈ mg_G := mg_t1 61 rfl rfl
theorem hw_62 : (Cond.fieldLink "TokenScanner$Token" 29 "TokenScanner$Token" "word" "I") ∈ mg_G := mg_t1 62 rfl rfl
theorem hw_63 : (Cond.fieldLinkNest "TokenScanner" 124 "TokenScanner$Token" "word" "I" "TokenScanner") ∈ mg_G := mg_t1 63 rfl rfl
theorem hw_64 : (Cond.fieldLinkNest "TokenScanner$Reader" 132 "TokenScanner$Token" "word" "I" "TokenScanner") ∈ mg_G := mg_t1 64 rfl rfl
theorem hw_65 : (Cond.fieldLink "TokenScanner$Token" 32 "TokenScanner$Token" "escaped" "Z") ∈ mg_G := mg_t1 65 rfl rfl
theorem hw_66 : (Cond.fieldLinkNest "TokenScanner" 127 "TokenScanner$Token" "escaped" "Z" "TokenScanner") ∈ mg_G := mg_t1 66 rfl rfl
theorem hw_67 : (Cond.fieldLinkNest "TokenScanner$Reader" 135 "TokenScanner$Token" "escaped" "Z" "TokenScanner") ∈ mg_G := mg_t1 67 rfl rfl
theorem hw_68 : (Cond.fieldLink "TokenScanner$Token" 35 "TokenScanner$Token" "sign" "I") ∈ mg_G := mg_t1 68 rfl rfl
theorem hw_69 : (Cond.fieldLinkNest "TokenScanner$Reader" 86 "TokenScanner$Token" "sign" "I" "TokenScanner") ∈ mg_G := mg_t1 69 rfl rfl
theorem hw_70 : (Cond.fieldLinkNest "TokenScanner" 97 "TokenScanner$Token" "sign" "I" "TokenScanner") ∈ mg_G := mg_t1 70 rfl rfl
theorem hw_71 : (Cond.fieldLink "TokenScanner$Token" 9 "TokenScanner$Token" "units" "[I") ∈ mg_G := mg_t1 71 rfl rfl
theorem hw_72 : (Cond.fieldLinkNest "TokenScanner$Spellings" 53 "TokenScanner$Token" "units" "[I" "TokenScanner") ∈ mg_G := mg_t1 72 rfl rfl
theorem hw_73 : (Cond.fieldLinkNest "TokenScanner" 140 "TokenScanner$Token" "units" "[I" "TokenScanner") ∈ mg_G := mg_t1 73 rfl rfl
theorem hw_74 : (Cond.fieldLink "TokenScanner$Token" 38 "TokenScanner$Token" "size" "I") ∈ mg_G := mg_t1 74 rfl rfl
theorem hw_75 : (Cond.fieldLinkNest "TokenScanner$Spellings" 47 "TokenScanner$Token" "size" "I" "TokenScanner") ∈ mg_G := mg_t1 75 rfl rfl
theorem hw_76 : (Cond.fieldLinkNest "TokenScanner" 130 "TokenScanner$Token" "size" "I" "TokenScanner") ∈ mg_G := mg_t1 76 rfl rfl
theorem hw_77 : (Cond.fieldLinkNest "TokenScanner$Reader" 141 "TokenScanner$Token" "size" "I" "TokenScanner") ∈ mg_G := mg_t1 77 rfl rfl
theorem hw_78 : (Cond.lays "TokenScanner$Token" "TokenScanner$Token" "kind" "I") ∈ mg_G := mg_t1 78 rfl rfl
theorem hw_80 : (Cond.lays "TokenScanner$Token" "TokenScanner$Token" "first" "I") ∈ mg_G := mg_t1 80 rfl rfl
theorem hw_82 : (Cond.lays "TokenScanner$Token" "TokenScanner$Token" "behind" "I") ∈ mg_G := mg_t1 82 rfl rfl
theorem hw_84 : (Cond.lays "TokenScanner$Token" "TokenScanner$Token" "lineEndsBefore" "Z") ∈ mg_G := mg_t1 84 rfl rfl
theorem hw_86 : (Cond.lays "TokenScanner$Token" "TokenScanner$Token" "word" "I") ∈ mg_G := mg_t1 86 rfl rfl
theorem hw_88 : (Cond.lays "TokenScanner$Token" "TokenScanner$Token" "escaped" "Z") ∈ mg_G := mg_t1 88 rfl rfl
theorem hw_90 : (Cond.lays "TokenScanner$Token" "TokenScanner$Token" "sign" "I") ∈ mg_G := mg_t1 90 rfl rfl
theorem hw_92 : (Cond.laysFinal "TokenScanner$Token" "TokenScanner$Token" "units" "[I") ∈ mg_G := mg_t1 92 rfl rfl
theorem hw_94 : (Cond.lays "TokenScanner$Token" "TokenScanner$Token" "size" "I") ∈ mg_G := mg_t1 94 rfl rfl
theorem hw_97 : (Cond.classLink "TokenScanner" 23 "TokenScanner$Reader") ∈ mg_G := mg_t1 97 rfl rfl
theorem hw_98 : (Cond.instantiable "TokenScanner$Reader" 6) ∈ mg_G := mg_t1 98 rfl rfl
theorem hw_99 : (Cond.methodLink "TokenScanner" 25 ⟨"TokenScanner$Reader", "<init>", "(LTokenScanner$Source;LTokenScanner$Token;)V"⟩) ∈ mg_G := mg_t1 99 rfl rfl
theorem hw_100 : (Cond.instanceMethod ⟨"TokenScanner$Reader", "<init>", "(LTokenScanner$Source;LTokenScanner$Token;)V"⟩) ∈ mg_G := mg_t1 100 rfl rfl
theorem hw_101 : (Cond.code ⟨"TokenScanner$Reader", "<init>", "(LTokenScanner$Source;LTokenScanner$Token;)V"⟩ prog_2_method_1_code 3 none) ∈ mg_G := mg_t1 101 rfl rfl
theorem hw_102 : (Cond.methodLink "TokenScanner$Reader" 3 ⟨"java/lang/Object", "<init>", "()V"⟩) ∈ mg_G := mg_t1 102 rfl rfl
theorem hw_103 : (Cond.classLink "TokenScanner$Reader" 9 "TokenScanner$Spellings") ∈ mg_G := mg_t1 103 rfl rfl
theorem hw_104 : (Cond.instantiable "TokenScanner$Spellings" 2) ∈ mg_G := mg_t1 104 rfl rfl
theorem hw_106 : (Cond.methodLink "TokenScanner$Reader" 13 ⟨"TokenScanner$Spellings", "<init>", "(Ljava/lang/String;)V"⟩) ∈ mg_G := mg_t1 106 rfl rfl
theorem hw_107 : (Cond.instanceMethod ⟨"TokenScanner$Spellings", "<init>", "(Ljava/lang/String;)V"⟩) ∈ mg_G := mg_t1 107 rfl rfl
theorem hw_108 : (Cond.code ⟨"TokenScanner$Spellings", "<init>", "(Ljava/lang/String;)V"⟩ prog_5_method_1_code 5 none) ∈ mg_G := mg_t1 108 rfl rfl
theorem hw_109 : (Cond.methodLink "TokenScanner$Spellings" 3 ⟨"java/lang/Object", "<init>", "()V"⟩) ∈ mg_G := mg_t1 109 rfl rfl
theorem hw_110 : (Cond.methodLink "TokenScanner$Spellings" 15 ⟨"java/lang/String", "length", "()I"⟩) ∈ mg_G := mg_t1 110 rfl rfl
theorem hw_111 : (Cond.instanceMethod ⟨"java/lang/String", "length", "()I"⟩) ∈ mg_G := mg_t1 111 rfl rfl
theorem hw_112 : (Cond.selects "java/lang/String" ⟨"java/lang/String", "length", "()I"⟩ ⟨"java/lang/String", "length", "()I"⟩) ∈ mg_G := mg_t1 112 rfl rfl
theorem hw_113 : (Cond.code ⟨"java/lang/String", "length", "()I"⟩ prog_17_method_54_code 1 (some .int)) ∈ mg_G := mg_t1 113 rfl rfl
theorem hw_114 : (Cond.methodLink "java/lang/String" 335 ⟨"java/lang/String", "coder", "()B"⟩) ∈ mg_G := mg_t1 114 rfl rfl
theorem hw_115 : (Cond.instanceMethod ⟨"java/lang/String", "coder", "()B"⟩) ∈ mg_G := mg_t1 115 rfl rfl
theorem hw_116 : (Cond.selects "java/lang/String" ⟨"java/lang/String", "coder", "()B"⟩ ⟨"java/lang/String", "coder", "()B"⟩) ∈ mg_G := mg_t1 116 rfl rfl
theorem hw_117 : (Cond.code ⟨"java/lang/String", "coder", "()B"⟩ prog_17_method_152_code 1 (some .byte)) ∈ mg_G := mg_t1 117 rfl rfl
theorem hw_118 : (Cond.fieldLink "java/lang/String" 38 "java/lang/String" "COMPACT_STRINGS" "Z") ∈ mg_G := mg_t1 118 rfl rfl
theorem hw_120 : (Cond.methodLink "TokenScanner$Spellings" 21 ⟨"java/lang/String", "charAt", "(I)C"⟩) ∈ mg_G := mg_t1 120 rfl rfl
theorem hw_121 : (Cond.instanceMethod ⟨"java/lang/String", "charAt", "(I)C"⟩) ∈ mg_G := mg_t1 121 rfl rfl
theorem hw_122 : (Cond.selects "java/lang/String" ⟨"java/lang/String", "charAt", "(I)C"⟩ ⟨"java/lang/String", "charAt", "(I)C"⟩) ∈ mg_G := mg_t1 122 rfl rfl
theorem hw_123 : (Cond.code ⟨"java/lang/String", "charAt", "(I)C"⟩ prog_17_method_56_code 2 (some .char)) ∈ mg_G := mg_t1 123 rfl rfl
theorem hw_124 : (Cond.methodLink "java/lang/String" 492 ⟨"java/lang/String", "isLatin1", "()Z"⟩) ∈ mg_G := mg_t1 124 rfl rfl
theorem hw_125 : (Cond.instanceMethod ⟨"java/lang/String", "isLatin1", "()Z"⟩) ∈ mg_G := mg_t1 125 rfl rfl
theorem hw_126 : (Cond.selects "java/lang/String" ⟨"java/lang/String", "isLatin1", "()Z"⟩ ⟨"java/lang/String", "isLatin1", "()Z"⟩) ∈ mg_G := mg_t1 126 rfl rfl
theorem hw_127 : (Cond.code ⟨"java/lang/String", "isLatin1", "()Z"⟩ prog_17_method_154_code 1 (some .boolean)) ∈ mg_G := mg_t1 127 rfl rfl
theorem hw_128 : (Cond.methodLink "java/lang/String" 495 ⟨"java/lang/StringLatin1", "charAt", "([BI)C"⟩) ∈ mg_G := mg_t1 128 rfl rfl
theorem hw_129 : (Cond.static ⟨"java/lang/StringLatin1", "charAt", "([BI)C"⟩) ∈ mg_G := mg_t1 129 rfl rfl
theorem hw_130 : (Cond.code ⟨"java/lang/StringLatin1", "charAt", "([BI)C"⟩ prog_18_method_2_code 2 (some .char)) ∈ mg_G := mg_t1 130 rfl rfl
theorem hw_131 : (Cond.methodLink "java/lang/StringLatin1" 9 ⟨"java/lang/String", "checkIndex", "(II)V"⟩) ∈ mg_G := mg_t1 131 rfl rfl
theorem hw_132 : (Cond.static ⟨"java/lang/String", "checkIndex", "(II)V"⟩) ∈ mg_G := mg_t1 132 rfl rfl
theorem hw_133 : (Cond.code ⟨"java/lang/String", "checkIndex", "(II)V"⟩ prog_17_method_155_code 2 none) ∈ mg_G := mg_t1 133 rfl rfl
theorem hw_134 : (Cond.fieldLink "java/lang/String" 1053 "jdk/internal/util/Preconditions" "SIOOBE_FORMATTER" "Ljava/util/function/BiFunction;") ∈ mg_G := mg_t1 134 rfl rfl
theorem hw_136 : (Cond.methodLink "java/lang/String" 1059 ⟨"jdk/internal/util/Preconditions", "checkIndex", "(IILjava/util/function/BiFunction;)I"⟩) ∈ mg_G := mg_t1 136 rfl rfl
theorem hw_137 : (Cond.static ⟨"jdk/internal/util/Preconditions", "checkIndex", "(IILjava/util/function/BiFunction;)I"⟩) ∈ mg_G := mg_t1 137 rfl rfl
theorem hw_138 : (Cond.code ⟨"jdk/internal/util/Preconditions", "checkIndex", "(IILjava/util/function/BiFunction;)I"⟩ prog_23_method_11_code 3 (some .int)) ∈ mg_G := mg_t1 138 rfl rfl
theorem hw_158 : (Cond.methodLink "TokenScanner$Spellings" 25 ⟨"java/util/Arrays", "copyOf", "([II)[I"⟩) ∈ mg_G := mg_t1 158 rfl rfl
theorem hw_159 : (Cond.static ⟨"java/util/Arrays", "copyOf", "([II)[I"⟩) ∈ mg_G := mg_t1 159 rfl rfl
theorem hw_160 : (Cond.code ⟨"java/util/Arrays", "copyOf", "([II)[I"⟩ prog_22_method_123_code 3 (some (.array .int))) ∈ mg_G := mg_t1 160 rfl rfl
theorem hw_168 : (Cond.methodLink "java/util/Arrays" 304 ⟨"java/lang/Math", "min", "(II)I"⟩) ∈ mg_G := mg_t1 168 rfl rfl
theorem hw_169 : (Cond.static ⟨"java/lang/Math", "min", "(II)I"⟩) ∈ mg_G := mg_t1 169 rfl rfl
theorem hw_170 : (Cond.code ⟨"java/lang/Math", "min", "(II)I"⟩ prog_15_method_69_code 2 (some .int)) ∈ mg_G := mg_t1 170 rfl rfl
theorem hw_171 : (Cond.methodLink "java/util/Arrays" 150 ⟨"java/lang/System", "arraycopy", "(Ljava/lang/Object;ILjava/lang/Object;II)V"⟩) ∈ mg_G := mg_t1 171 rfl rfl
theorem hw_172 : (Cond.static ⟨"java/lang/System", "arraycopy", "(Ljava/lang/Object;ILjava/lang/Object;II)V"⟩) ∈ mg_G := mg_t1 172 rfl rfl
theorem hw_173 : (Cond.native ⟨"java/lang/System", "arraycopy", "(Ljava/lang/Object;ILjava/lang/Object;II)V"⟩) ∈ mg_G := mg_t1 173 rfl rfl
theorem hw_174 : (Cond.fieldLink "TokenScanner$Spellings" 9 "TokenScanner$Spellings" "list" "Ljava/lang/String;") ∈ mg_G := mg_t1 174 rfl rfl
theorem hw_175 : (Cond.fieldLink "TokenScanner$Spellings" 31 "TokenScanner$Spellings" "starts" "[I") ∈ mg_G := mg_t1 175 rfl rfl
theorem hw_176 : (Cond.laysFinal "TokenScanner$Spellings" "TokenScanner$Spellings" "list" "Ljava/lang/String;") ∈ mg_G := mg_t1 176 rfl rfl
theorem hw_178 : (Cond.laysFinal "TokenScanner$Spellings" "TokenScanner$Spellings" "starts" "[I") ∈ mg_G := mg_t1 178 rfl rfl
theorem hw_183 : (Cond.fieldLink "TokenScanner$Reader" 34 "TokenScanner$Reader" "source" "LTokenScanner$Source;") ∈ mg_G := mg_t1 183 rfl rfl
theorem hw_184 : (Cond.fieldLink "TokenScanner$Reader" 38 "TokenScanner$Reader" "token" "LTokenScanner$Token;") ∈ mg_G := mg_t1 184 rfl rfl
theorem hw_185 : (Cond.fieldLink "TokenScanner$Reader" 16 "TokenScanner$Reader" "words" "LTokenScanner$Spellings;") ∈ mg_G := mg_t1 185 rfl rfl
theorem hw_186 : (Cond.fieldLink "TokenScanner$Reader" 24 "TokenScanner$Reader" "signs" "LTokenScanner$Spellings;") ∈ mg_G := mg_t1 186 rfl rfl
theorem hw_187 : (Cond.fieldLink "TokenScanner$Reader" 27 "TokenScanner$Reader" "at" "I") ∈ mg_G := mg_t1 187 rfl rfl
theorem hw_188 : (Cond.fieldLink "TokenScanner$Reader" 31 "TokenScanner$Reader" "refusedAt" "I") ∈ mg_G := mg_t1 188 rfl rfl
theorem hw_189 : (Cond.fieldLinkNest "TokenScanner" 178 "TokenScanner$Reader" "refusedAt" "I" "TokenScanner") ∈ mg_G := mg_t1 189 rfl rfl
theorem hw_190 : (Cond.laysFinal "TokenScanner$Reader" "TokenScanner$Reader" "source" "LTokenScanner$Source;") ∈ mg_G := mg_t1 190 rfl rfl
theorem hw_192 : (Cond.laysFinal "TokenScanner$Reader" "TokenScanner$Reader" "token" "LTokenScanner$Token;") ∈ mg_G := mg_t1 192 rfl rfl
theorem hw_194 : (Cond.laysFinal "TokenScanner$Reader" "TokenScanner$Reader" "words" "LTokenScanner$Spellings;") ∈ mg_G := mg_t1 194 rfl rfl
theorem hw_196 : (Cond.laysFinal "TokenScanner$Reader" "TokenScanner$Reader" "signs" "LTokenScanner$Spellings;") ∈ mg_G := mg_t1 196 rfl rfl
theorem hw_198 : (Cond.lays "TokenScanner$Reader" "TokenScanner$Reader" "at" "I") ∈ mg_G := mg_t1 198 rfl rfl
theorem hw_200 : (Cond.lays "TokenScanner$Reader" "TokenScanner$Reader" "refusedAt" "I") ∈ mg_G := mg_t1 200 rfl rfl
theorem hw_203 : (Cond.classLink "TokenScanner" 32 "TokenScanner$Shelf") ∈ mg_G := mg_t1 203 rfl rfl
theorem hw_204 : (Cond.instantiable "TokenScanner$Shelf" 3) ∈ mg_G := mg_t1 204 rfl rfl
theorem hw_205 : (Cond.methodLink "TokenScanner" 34 ⟨"TokenScanner$Shelf", "<init>", "(II)V"⟩) ∈ mg_G := mg_t1 205 rfl rfl
theorem hw_206 : (Cond.instanceMethod ⟨"TokenScanner$Shelf", "<init>", "(II)V"⟩) ∈ mg_G := mg_t1 206 rfl rfl
theorem hw_207 : (Cond.code ⟨"TokenScanner$Shelf", "<init>", "(II)V"⟩ prog_3_method_1_code 3 none) ∈ mg_G := mg_t1 207 rfl rfl
theorem hw_208 : (Cond.methodLink "TokenScanner$Shelf" 3 ⟨"java/lang/Object", "<init>", "()V"⟩) ∈ mg_G := mg_t1 208 rfl rfl
theorem hw_209 : (Cond.methodLink "TokenScanner$Shelf" 9 ⟨"java/lang/Math", "max", "(II)I"⟩) ∈ mg_G := mg_t1 209 rfl rfl
theorem hw_210 : (Cond.static ⟨"java/lang/Math", "max", "(II)I"⟩) ∈ mg_G := mg_t1 210 rfl rfl
theorem hw_211 : (Cond.code ⟨"java/lang/Math", "max", "(II)I"⟩ prog_15_method_65_code 2 (some .int)) ∈ mg_G := mg_t1 211 rfl rfl
theorem hw_212 : (Cond.fieldLink "TokenScanner$Shelf" 15 "TokenScanner$Shelf" "units" "[I") ∈ mg_G := mg_t1 212 rfl rfl
theorem hw_213 : (Cond.fieldLink "TokenScanner$Shelf" 21 "TokenScanner$Shelf" "ends" "[I") ∈ mg_G := mg_t1 213 rfl rfl
theorem hw_214 : (Cond.fieldLink "TokenScanner$Shelf" 24 "TokenScanner$Shelf" "count" "I") ∈ mg_G := mg_t1 214 rfl rfl
theorem hw_215 : (Cond.laysFinal "TokenScanner$Shelf" "TokenScanner$Shelf" "units" "[I") ∈ mg_G := mg_t1 215 rfl rfl
theorem hw_217 : (Cond.laysFinal "TokenScanner$Shelf" "TokenScanner$Shelf" "ends" "[I") ∈ mg_G := mg_t1 217 rfl rfl
theorem hw_219 : (Cond.lays "TokenScanner$Shelf" "TokenScanner$Shelf" "count" "I") ∈ mg_G := mg_t1 219 rfl rfl
theorem hw_222 : (Cond.fieldLink "TokenScanner" 10 "TokenScanner" "source" "LTokenScanner$Source;") ∈ mg_G := mg_t1 222 rfl rfl
theorem hw_223 : (Cond.fieldLink "TokenScanner" 19 "TokenScanner" "current" "LTokenScanner$Token;") ∈ mg_G := mg_t1 223 rfl rfl
theorem hw_224 : (Cond.fieldLink "TokenScanner" 28 "TokenScanner" "reader" "LTokenScanner$Reader;") ∈ mg_G := mg_t1 224 rfl rfl
theorem hw_225 : (Cond.fieldLink "TokenScanner" 37 "TokenScanner" "names" "LTokenScanner$Shelf;") ∈ mg_G := mg_t1 225 rfl rfl
theorem hw_226 : (Cond.fieldLink "TokenScanner" 41 "TokenScanner" "literals" "LTokenScanner$Shelf;") ∈ mg_G := mg_t1 226 rfl rfl
theorem hw_227 : (Cond.fieldLink "TokenScanner" 44 "TokenScanner" "hasToken" "Z") ∈ mg_G := mg_t1 227 rfl rfl
theorem hw_228 : (Cond.fieldLink "TokenScanner" 48 "TokenScanner" "refusedAt" "I") ∈ mg_G := mg_t1 228 rfl rfl
theorem hw_229 : (Cond.laysFinal "TokenScanner" "TokenScanner" "source" "LTokenScanner$Source;") ∈ mg_G := mg_t1 229 rfl rfl
theorem hw_231 : (Cond.laysFinal "TokenScanner" "TokenScanner" "current" "LTokenScanner$Token;") ∈ mg_G := mg_t1 231 rfl rfl
theorem hw_233 : (Cond.laysFinal "TokenScanner" "TokenScanner" "reader" "LTokenScanner$Reader;") ∈ mg_G := mg_t1 233 rfl rfl
theorem hw_235 : (Cond.laysFinal "TokenScanner" "TokenScanner" "names" "LTokenScanner$Shelf;") ∈ mg_G := mg_t1 235 rfl rfl
theorem hw_237 : (Cond.laysFinal "TokenScanner" "TokenScanner" "literals" "LTokenScanner$Shelf;") ∈ mg_G := mg_t1 237 rfl rfl
theorem hw_239 : (Cond.lays "TokenScanner" "TokenScanner" "hasToken" "Z") ∈ mg_G := mg_t1 239 rfl rfl
theorem hw_241 : (Cond.lays "TokenScanner" "TokenScanner" "refusedAt" "I") ∈ mg_G := mg_t2 1 rfl rfl
theorem hw_244 : (Cond.methodLink "TokenScannerLaw" 78 ⟨"TokenScanner", "place", "()I"⟩) ∈ mg_G := mg_t2 4 rfl rfl
theorem hw_245 : (Cond.instanceMethod ⟨"TokenScanner", "place", "()I"⟩) ∈ mg_G := mg_t2 5 rfl rfl
theorem hw_246 : (Cond.selects "TokenScanner" ⟨"TokenScanner", "place", "()I"⟩ ⟨"TokenScanner", "place", "()I"⟩) ∈ mg_G := mg_t2 6 rfl rfl
theorem hw_247 : (Cond.code ⟨"TokenScanner", "place", "()I"⟩ prog_1_method_7_code 1 (some .int)) ∈ mg_G := mg_t2 7 rfl rfl
theorem hw_248 : (Cond.methodLink "TokenScannerLaw" 55 ⟨"TokenScannerLaw", "feed", "(LTokenScanner;JI[J)I"⟩) ∈ mg_G := mg_t2 8 rfl rfl
theorem hw_249 : (Cond.static ⟨"TokenScannerLaw", "feed", "(LTokenScanner;JI[J)I"⟩) ∈ mg_G := mg_t2 9 rfl rfl
theorem hw_250 : (Cond.codeWith ⟨"TokenScannerLaw", "feed", "(LTokenScanner;JI[J)I"⟩ method_3_code 6 (some .int) [(0, 11, 14, 13), (0, 11, 18, 15)]) ∈ mg_G := mg_t2 10 rfl rfl
theorem hw_251 : (Cond.classLink "TokenScannerLaw" 13 "java/lang/IllegalArgumentException") ∈ mg_G := mg_t2 11 rfl rfl
theorem hw_252 : (Cond.classLink "TokenScannerLaw" 15 "java/lang/IllegalStateException") ∈ mg_G := mg_t2 12 rfl rfl
theorem hw_253 : (Cond.methodLink "TokenScannerLaw" 7 ⟨"TokenScanner", "feed", "(JI)I"⟩) ∈ mg_G := mg_t2 13 rfl rfl
theorem hw_254 : (Cond.instanceMethod ⟨"TokenScanner", "feed", "(JI)I"⟩) ∈ mg_G := mg_t2 14 rfl rfl
theorem hw_255 : (Cond.selects "TokenScanner" ⟨"TokenScanner", "feed", "(JI)I"⟩ ⟨"TokenScanner", "feed", "(JI)I"⟩) ∈ mg_G := mg_t2 15 rfl rfl
theorem hw_256 : (Cond.code ⟨"TokenScanner", "feed", "(JI)I"⟩ prog_1_method_2_code 5 (some .int)) ∈ mg_G := mg_t2 16 rfl rfl
theorem hw_257 : (Cond.classLink "TokenScanner" 52 "java/lang/IllegalArgumentException") ∈ mg_G := mg_t2 17 rfl rfl
theorem hw_259 : (Cond.castable "java/lang/IllegalArgumentException" "java/lang/IllegalArgumentException") ∈ mg_G := mg_t2 19 rfl rfl
theorem hw_324 : (Cond.classLink "TokenScanner" 59 "java/lang/IllegalStateException") ∈ mg_G := mg_t2 84 rfl rfl
theorem hw_326 : (Cond.castable "java/lang/IllegalStateException" "java/lang/IllegalStateException") ∈ mg_G := mg_t2 86 rfl rfl
theorem hw_340 : (Cond.methodLink "TokenScanner" 64 ⟨"TokenScanner$Source", "hasRoomFor", "(I)Z"⟩) ∈ mg_G := mg_t2 100 rfl rfl
theorem hw_341 : (Cond.instanceMethod ⟨"TokenScanner$Source", "hasRoomFor", "(I)Z"⟩) ∈ mg_G := mg_t2 101 rfl rfl
theorem hw_342 : (Cond.selects "TokenScanner$Source" ⟨"TokenScanner$Source", "hasRoomFor", "(I)Z"⟩ ⟨"TokenScanner$Source", "hasRoomFor", "(I)Z"⟩) ∈ mg_G := mg_t2 102 rfl rfl
theorem hw_343 : (Cond.code ⟨"TokenScanner$Source", "hasRoomFor", "(I)Z"⟩ prog_4_method_2_code 2 (some .boolean)) ∈ mg_G := mg_t2 103 rfl rfl
theorem hw_345 : (Cond.methodLink "TokenScanner" 70 ⟨"TokenScanner$Source", "add", "(I)V"⟩) ∈ mg_G := mg_t2 105 rfl rfl
theorem hw_346 : (Cond.instanceMethod ⟨"TokenScanner$Source", "add", "(I)V"⟩) ∈ mg_G := mg_t2 106 rfl rfl
theorem hw_347 : (Cond.selects "TokenScanner$Source" ⟨"TokenScanner$Source", "add", "(I)V"⟩ ⟨"TokenScanner$Source", "add", "(I)V"⟩) ∈ mg_G := mg_t2 107 rfl rfl
theorem hw_348 : (Cond.code ⟨"TokenScanner$Source", "add", "(I)V"⟩ prog_4_method_3_code 2 none) ∈ mg_G := mg_t2 108 rfl rfl
theorem hw_349 : (Cond.methodLink "TokenScanner" 74 ⟨"TokenScanner$Source", "size", "()I"⟩) ∈ mg_G := mg_t2 109 rfl rfl
theorem hw_350 : (Cond.instanceMethod ⟨"TokenScanner$Source", "size", "()I"⟩) ∈ mg_G := mg_t2 110 rfl rfl
theorem hw_351 : (Cond.selects "TokenScanner$Source" ⟨"TokenScanner$Source", "size", "()I"⟩ ⟨"TokenScanner$Source", "size", "()I"⟩) ∈ mg_G := mg_t2 111 rfl rfl
theorem hw_352 : (Cond.code ⟨"TokenScanner$Source", "size", "()I"⟩ prog_4_method_5_code 1 (some .int)) ∈ mg_G := mg_t2 112 rfl rfl
theorem hw_353 : (Cond.methodLink "TokenScannerLaw" 64 ⟨"TokenScannerLaw", "begin", "(LTokenScanner;[J)I"⟩) ∈ mg_G := mg_t2 113 rfl rfl
theorem hw_354 : (Cond.static ⟨"TokenScannerLaw", "begin", "(LTokenScanner;[J)I"⟩) ∈ mg_G := mg_t2 114 rfl rfl
theorem hw_355 : (Cond.codeWith ⟨"TokenScannerLaw", "begin", "(LTokenScanner;[J)I"⟩ method_4_code 3 (some .int) [(0, 8, 11, 13), (0, 8, 14, 15)]) ∈ mg_G := mg_t2 115 rfl rfl
theorem hw_356 : (Cond.methodLink "TokenScannerLaw" 17 ⟨"TokenScanner", "begin", "()I"⟩) ∈ mg_G := mg_t2 116 rfl rfl
theorem hw_357 : (Cond.instanceMethod ⟨"TokenScanner", "begin", "()I"⟩) ∈ mg_G := mg_t2 117 rfl rfl
theorem hw_358 : (Cond.selects "TokenScanner" ⟨"TokenScanner", "begin", "()I"⟩ ⟨"TokenScanner", "begin", "()I"⟩) ∈ mg_G := mg_t2 118 rfl rfl
theorem hw_359 : (Cond.code ⟨"TokenScanner", "begin", "()I"⟩ prog_1_method_3_code 1 (some .int)) ∈ mg_G := mg_t2 119 rfl rfl
theorem hw_360 : (Cond.methodLink "TokenScanner" 78 ⟨"TokenScanner$Shelf", "clear", "()V"⟩) ∈ mg_G := mg_t2 120 rfl rfl
theorem hw_361 : (Cond.instanceMethod ⟨"TokenScanner$Shelf", "clear", "()V"⟩) ∈ mg_G := mg_t2 121 rfl rfl
theorem hw_362 : (Cond.selects "TokenScanner$Shelf" ⟨"TokenScanner$Shelf", "clear", "()V"⟩ ⟨"TokenScanner$Shelf", "clear", "()V"⟩) ∈ mg_G := mg_t2 122 rfl rfl
theorem hw_363 : (Cond.code ⟨"TokenScanner$Shelf", "clear", "()V"⟩ prog_3_method_2_code 1 none) ∈ mg_G := mg_t2 123 rfl rfl
theorem hw_364 : (Cond.methodLink "TokenScanner" 81 ⟨"TokenScanner$Reader", "restart", "()V"⟩) ∈ mg_G := mg_t2 124 rfl rfl
theorem hw_365 : (Cond.instanceMethod ⟨"TokenScanner$Reader", "restart", "()V"⟩) ∈ mg_G := mg_t2 125 rfl rfl
theorem hw_366 : (Cond.selects "TokenScanner$Reader" ⟨"TokenScanner$Reader", "restart", "()V"⟩ ⟨"TokenScanner$Reader", "restart", "()V"⟩) ∈ mg_G := mg_t2 126 rfl rfl
theorem hw_367 : (Cond.code ⟨"TokenScanner$Reader", "restart", "()V"⟩ prog_2_method_2_code 1 none) ∈ mg_G := mg_t2 127 rfl rfl
theorem hw_368 : (Cond.methodLink "TokenScanner" 84 ⟨"TokenScanner$Reader", "readToken", "()Z"⟩) ∈ mg_G := mg_t2 128 rfl rfl
theorem hw_369 : (Cond.instanceMethod ⟨"TokenScanner$Reader", "readToken", "()Z"⟩) ∈ mg_G := mg_t2 129 rfl rfl
theorem hw_370 : (Cond.selects "TokenScanner$Reader" ⟨"TokenScanner$Reader", "readToken", "()Z"⟩ ⟨"TokenScanner$Reader", "readToken", "()Z"⟩) ∈ mg_G := mg_t2 130 rfl rfl
theorem hw_371 : (Cond.code ⟨"TokenScanner$Reader", "readToken", "()Z"⟩ prog_2_method_3_code 3 (some .boolean)) ∈ mg_G := mg_t2 131 rfl rfl
theorem hw_372 : (Cond.methodLink "TokenScanner$Reader" 42 ⟨"TokenScanner$Token", "clear", "()V"⟩) ∈ mg_G := mg_t2 132 rfl rfl
theorem hw_373 : (Cond.instanceMethod ⟨"TokenScanner$Token", "clear", "()V"⟩) ∈ mg_G := mg_t2 133 rfl rfl
theorem hw_374 : (Cond.selects "TokenScanner$Token" ⟨"TokenScanner$Token", "clear", "()V"⟩ ⟨"TokenScanner$Token", "clear", "()V"⟩) ∈ mg_G := mg_t2 134 rfl rfl
theorem hw_375 : (Cond.code ⟨"TokenScanner$Token", "clear", "()V"⟩ prog_6_method_2_code 1 none) ∈ mg_G := mg_t2 135 rfl rfl
theorem hw_376 : (Cond.methodLink "TokenScanner$Reader" 47 ⟨"TokenScanner$Reader", "skipToToken", "()Z"⟩) ∈ mg_G := mg_t2 136 rfl rfl
theorem hw_378 : (Cond.instanceMethod ⟨"TokenScanner$Reader", "skipToToken", "()Z"⟩) ∈ mg_G := mg_t2 138 rfl rfl
theorem hw_379 : (Cond.code ⟨"TokenScanner$Reader", "skipToToken", "()Z"⟩ prog_2_method_6_code 4 (some .boolean)) ∈ mg_G := mg_t2 139 rfl rfl
theorem hw_380 : (Cond.methodLink "TokenScanner$Reader" 92 ⟨"TokenScanner$Source", "size", "()I"⟩) ∈ mg_G := mg_t2 140 rfl rfl
theorem hw_381 : (Cond.methodLink "TokenScanner$Reader" 54 ⟨"TokenScanner$Source", "at", "(I)I"⟩) ∈ mg_G := mg_t2 141 rfl rfl
theorem hw_382 : (Cond.instanceMethod ⟨"TokenScanner$Source", "at", "(I)I"⟩) ∈ mg_G := mg_t2 142 rfl rfl
theorem hw_383 : (Cond.selects "TokenScanner$Source" ⟨"TokenScanner$Source", "at", "(I)I"⟩ ⟨"TokenScanner$Source", "at", "(I)I"⟩) ∈ mg_G := mg_t2 143 rfl rfl
theorem hw_384 : (Cond.code ⟨"TokenScanner$Source", "at", "(I)I"⟩ prog_4_method_6_code 2 (some .int)) ∈ mg_G := mg_t2 144 rfl rfl
theorem hw_385 : (Cond.methodLink "TokenScanner$Reader" 105 ⟨"TokenScanner$Units", "isBlank", "(I)Z"⟩) ∈ mg_G := mg_t2 145 rfl rfl
theorem hw_386 : (Cond.static ⟨"TokenScanner$Units", "isBlank", "(I)Z"⟩) ∈ mg_G := mg_t2 146 rfl rfl
theorem hw_387 : (Cond.code ⟨"TokenScanner$Units", "isBlank", "(I)Z"⟩ prog_7_method_2_code 1 (some .boolean)) ∈ mg_G := mg_t2 147 rfl rfl
theorem hw_388 : (Cond.methodLink "TokenScanner$Reader" 108 ⟨"TokenScanner$Units", "isLineEnd", "(I)Z"⟩) ∈ mg_G := mg_t2 148 rfl rfl
theorem hw_389 : (Cond.static ⟨"TokenScanner$Units", "isLineEnd", "(I)Z"⟩) ∈ mg_G := mg_t2 149 rfl rfl
theorem hw_390 : (Cond.code ⟨"TokenScanner$Units", "isLineEnd", "(I)Z"⟩ prog_7_method_3_code 1 (some .boolean)) ∈ mg_G := mg_t2 150 rfl rfl
theorem hw_391 : (Cond.methodLink "TokenScanner$Reader" 115 ⟨"TokenScanner$Reader", "skipLineComment", "()V"⟩) ∈ mg_G := mg_t2 151 rfl rfl
theorem hw_393 : (Cond.instanceMethod ⟨"TokenScanner$Reader", "skipLineComment", "()V"⟩) ∈ mg_G := mg_t2 153 rfl rfl
theorem hw_394 : (Cond.code ⟨"TokenScanner$Reader", "skipLineComment", "()V"⟩ prog_2_method_7_code 1 none) ∈ mg_G := mg_t2 154 rfl rfl
theorem hw_395 : (Cond.methodLink "TokenScanner$Reader" 118 ⟨"TokenScanner$Reader", "skipBlockComment", "()Z"⟩) ∈ mg_G := mg_t2 155 rfl rfl
theorem hw_397 : (Cond.instanceMethod ⟨"TokenScanner$Reader", "skipBlockComment", "()Z"⟩) ∈ mg_G := mg_t2 157 rfl rfl
theorem hw_398 : (Cond.code ⟨"TokenScanner$Reader", "skipBlockComment", "()Z"⟩ prog_2_method_8_code 2 (some .boolean)) ∈ mg_G := mg_t2 158 rfl rfl
theorem hw_399 : (Cond.methodLink "TokenScanner$Reader" 99 ⟨"TokenScanner$Reader", "refuse", "(I)Z"⟩) ∈ mg_G := mg_t2 159 rfl rfl
theorem hw_401 : (Cond.instanceMethod ⟨"TokenScanner$Reader", "refuse", "(I)Z"⟩) ∈ mg_G := mg_t2 161 rfl rfl
theorem hw_402 : (Cond.code ⟨"TokenScanner$Reader", "refuse", "(I)Z"⟩ prog_2_method_5_code 2 (some .boolean)) ∈ mg_G := mg_t2 162 rfl rfl
theorem hw_403 : (Cond.methodLink "TokenScanner$Reader" 59 ⟨"TokenScanner$Units", "canStartName", "(I)Z"⟩) ∈ mg_G := mg_t2 163 rfl rfl
theorem hw_404 : (Cond.static ⟨"TokenScanner$Units", "canStartName", "(I)Z"⟩) ∈ mg_G := mg_t2 164 rfl rfl
theorem hw_405 : (Cond.code ⟨"TokenScanner$Units", "canStartName", "(I)Z"⟩ prog_7_method_5_code 1 (some .boolean)) ∈ mg_G := mg_t2 165 rfl rfl
theorem hw_406 : (Cond.methodLink "TokenScanner$Reader" 65 ⟨"TokenScanner$Reader", "readName", "()Z"⟩) ∈ mg_G := mg_t2 166 rfl rfl
theorem hw_408 : (Cond.instanceMethod ⟨"TokenScanner$Reader", "readName", "()Z"⟩) ∈ mg_G := mg_t2 168 rfl rfl
theorem hw_409 : (Cond.code ⟨"TokenScanner$Reader", "readName", "()Z"⟩ prog_2_method_9_code 3 (some .boolean)) ∈ mg_G := mg_t2 169 rfl rfl
theorem hw_410 : (Cond.methodLink "TokenScanner$Reader" 121 ⟨"TokenScanner$Reader", "readNameEscape", "()Z"⟩) ∈ mg_G := mg_t2 170 rfl rfl
theorem hw_412 : (Cond.instanceMethod ⟨"TokenScanner$Reader", "readNameEscape", "()Z"⟩) ∈ mg_G := mg_t2 172 rfl rfl
theorem hw_413 : (Cond.code ⟨"TokenScanner$Reader", "readNameEscape", "()Z"⟩ prog_2_method_10_code 4 (some .boolean)) ∈ mg_G := mg_t2 173 rfl rfl
theorem hw_414 : (Cond.methodLink "TokenScanner$Reader" 138 ⟨"TokenScanner$Reader", "readHex", "(I)I"⟩) ∈ mg_G := mg_t2 174 rfl rfl
theorem hw_416 : (Cond.instanceMethod ⟨"TokenScanner$Reader", "readHex", "(I)I"⟩) ∈ mg_G := mg_t2 176 rfl rfl
theorem hw_417 : (Cond.code ⟨"TokenScanner$Reader", "readHex", "(I)I"⟩ prog_2_method_11_code 5 (some .int)) ∈ mg_G := mg_t2 177 rfl rfl
theorem hw_418 : (Cond.methodLink "TokenScanner$Reader" 143 ⟨"TokenScanner$Units", "hexValue", "(I)I"⟩) ∈ mg_G := mg_t2 178 rfl rfl
theorem hw_419 : (Cond.static ⟨"TokenScanner$Units", "hexValue", "(I)I"⟩) ∈ mg_G := mg_t2 179 rfl rfl
theorem hw_420 : (Cond.code ⟨"TokenScanner$Units", "hexValue", "(I)I"⟩ prog_7_method_7_code 1 (some .int)) ∈ mg_G := mg_t2 180 rfl rfl
theorem hw_421 : (Cond.methodLink "TokenScanner$Reader" 96 ⟨"TokenScanner$Units", "canStandInName", "(I)Z"⟩) ∈ mg_G := mg_t2 181 rfl rfl
theorem hw_422 : (Cond.static ⟨"TokenScanner$Units", "canStandInName", "(I)Z"⟩) ∈ mg_G := mg_t2 182 rfl rfl
theorem hw_423 : (Cond.code ⟨"TokenScanner$Units", "canStandInName", "(I)Z"⟩ prog_7_method_6_code 1 (some .boolean)) ∈ mg_G := mg_t2 183 rfl rfl
theorem hw_424 : (Cond.methodLink "TokenScanner$Units" 9 ⟨"TokenScanner$Units", "canStartName", "(I)Z"⟩) ∈ mg_G := mg_t2 184 rfl rfl
theorem hw_425 : (Cond.methodLink "TokenScanner$Units" 15 ⟨"TokenScanner$Units", "isDigit", "(I)Z"⟩) ∈ mg_G := mg_t2 185 rfl rfl
theorem hw_426 : (Cond.static ⟨"TokenScanner$Units", "isDigit", "(I)Z"⟩) ∈ mg_G := mg_t2 186 rfl rfl
theorem hw_427 : (Cond.code ⟨"TokenScanner$Units", "isDigit", "(I)Z"⟩ prog_7_method_4_code 1 (some .boolean)) ∈ mg_G := mg_t2 187 rfl rfl
theorem hw_428 : (Cond.methodLink "TokenScanner$Reader" 124 ⟨"TokenScanner$Token", "add", "(I)V"⟩) ∈ mg_G := mg_t2 188 rfl rfl
theorem hw_429 : (Cond.instanceMethod ⟨"TokenScanner$Token", "add", "(I)V"⟩) ∈ mg_G := mg_t2 189 rfl rfl
theorem hw_430 : (Cond.selects "TokenScanner$Token" ⟨"TokenScanner$Token", "add", "(I)V"⟩ ⟨"TokenScanner$Token", "add", "(I)V"⟩) ∈ mg_G := mg_t2 190 rfl rfl
theorem hw_431 : (Cond.code ⟨"TokenScanner$Token", "add", "(I)V"⟩ prog_6_method_3_code 2 none) ∈ mg_G := mg_t2 191 rfl rfl
theorem hw_432 : (Cond.methodLink "TokenScanner$Reader" 128 ⟨"TokenScanner$Spellings", "exactly", "(LTokenScanner$Token;)I"⟩) ∈ mg_G := mg_t2 192 rfl rfl
theorem hw_433 : (Cond.instanceMethod ⟨"TokenScanner$Spellings", "exactly", "(LTokenScanner$Token;)I"⟩) ∈ mg_G := mg_t2 193 rfl rfl
theorem hw_434 : (Cond.selects "TokenScanner$Spellings" ⟨"TokenScanner$Spellings", "exactly", "(LTokenScanner$Token;)I"⟩ ⟨"TokenScanner$Spellings", "exactly", "(LTokenScanner$Token;)I"⟩) ∈ mg_G := mg_t2 194 rfl rfl
theorem hw_435 : (Cond.code ⟨"TokenScanner$Spellings", "exactly", "(LTokenScanner$Token;)I"⟩ prog_5_method_2_code 3 (some .int)) ∈ mg_G := mg_t2 195 rfl rfl
theorem hw_436 : (Cond.methodLink "TokenScanner$Spellings" 35 ⟨"TokenScanner$Spellings", "isOf", "(ILTokenScanner$Token;)Z"⟩) ∈ mg_G := mg_t2 196 rfl rfl
theorem hw_438 : (Cond.instanceMethod ⟨"TokenScanner$Spellings", "isOf", "(ILTokenScanner$Token;)Z"⟩) ∈ mg_G := mg_t2 198 rfl rfl
theorem hw_439 : (Cond.code ⟨"TokenScanner$Spellings", "isOf", "(ILTokenScanner$Token;)Z"⟩ prog_5_method_5_code 5 (some .boolean)) ∈ mg_G := mg_t2 199 rfl rfl
theorem hw_440 : (Cond.methodLink "TokenScanner$Spellings" 39 ⟨"TokenScanner$Spellings", "lengthOf", "(I)I"⟩) ∈ mg_G := mg_t2 200 rfl rfl
theorem hw_441 : (Cond.instanceMethod ⟨"TokenScanner$Spellings", "lengthOf", "(I)I"⟩) ∈ mg_G := mg_t2 201 rfl rfl
theorem hw_442 : (Cond.selects "TokenScanner$Spellings" ⟨"TokenScanner$Spellings", "lengthOf", "(I)I"⟩ ⟨"TokenScanner$Spellings", "lengthOf", "(I)I"⟩) ∈ mg_G := mg_t2 202 rfl rfl
theorem hw_443 : (Cond.code ⟨"TokenScanner$Spellings", "lengthOf", "(I)I"⟩ prog_5_method_4_code 2 (some .int)) ∈ mg_G := mg_t2 203 rfl rfl
theorem hw_444 : (Cond.methodLink "TokenScanner$Reader" 68 ⟨"TokenScanner$Units", "isDigit", "(I)Z"⟩) ∈ mg_G := mg_t2 204 rfl rfl
theorem hw_445 : (Cond.methodLink "TokenScanner$Reader" 71 ⟨"TokenScanner$Reader", "readNumber", "()Z"⟩) ∈ mg_G := mg_t2 205 rfl rfl
theorem hw_447 : (Cond.instanceMethod ⟨"TokenScanner$Reader", "readNumber", "()Z"⟩) ∈ mg_G := mg_t2 207 rfl rfl
theorem hw_448 : (Cond.code ⟨"TokenScanner$Reader", "readNumber", "()Z"⟩ prog_2_method_12_code 5 (some .boolean)) ∈ mg_G := mg_t2 208 rfl rfl
theorem hw_449 : (Cond.methodLink "TokenScanner$Reader" 146 ⟨"TokenScanner$Reader", "skipHexNumber", "()Z"⟩) ∈ mg_G := mg_t2 209 rfl rfl
theorem hw_451 : (Cond.instanceMethod ⟨"TokenScanner$Reader", "skipHexNumber", "()Z"⟩) ∈ mg_G := mg_t2 211 rfl rfl
theorem hw_452 : (Cond.code ⟨"TokenScanner$Reader", "skipHexNumber", "()Z"⟩ prog_2_method_13_code 1 (some .boolean)) ∈ mg_G := mg_t2 212 rfl rfl
theorem hw_453 : (Cond.methodLink "TokenScanner$Reader" 149 ⟨"TokenScanner$Reader", "skipDecimalNumber", "()Z"⟩) ∈ mg_G := mg_t2 213 rfl rfl
theorem hw_455 : (Cond.instanceMethod ⟨"TokenScanner$Reader", "skipDecimalNumber", "()Z"⟩) ∈ mg_G := mg_t2 215 rfl rfl
theorem hw_456 : (Cond.code ⟨"TokenScanner$Reader", "skipDecimalNumber", "()Z"⟩ prog_2_method_14_code 1 (some .boolean)) ∈ mg_G := mg_t2 216 rfl rfl
theorem hw_457 : (Cond.methodLink "TokenScanner$Reader" 152 ⟨"TokenScanner$Reader", "skipDigits", "()V"⟩) ∈ mg_G := mg_t2 217 rfl rfl
theorem hw_459 : (Cond.instanceMethod ⟨"TokenScanner$Reader", "skipDigits", "()V"⟩) ∈ mg_G := mg_t2 219 rfl rfl
theorem hw_460 : (Cond.code ⟨"TokenScanner$Reader", "skipDigits", "()V"⟩ prog_2_method_16_code 1 none) ∈ mg_G := mg_t2 220 rfl rfl
theorem hw_461 : (Cond.methodLink "TokenScanner$Reader" 155 ⟨"TokenScanner$Reader", "skipExponent", "()Z"⟩) ∈ mg_G := mg_t2 221 rfl rfl
theorem hw_463 : (Cond.instanceMethod ⟨"TokenScanner$Reader", "skipExponent", "()Z"⟩) ∈ mg_G := mg_t2 223 rfl rfl
theorem hw_464 : (Cond.code ⟨"TokenScanner$Reader", "skipExponent", "()Z"⟩ prog_2_method_15_code 3 (some .boolean)) ∈ mg_G := mg_t2 224 rfl rfl
theorem hw_465 : (Cond.methodLink "TokenScanner$Reader" 102 ⟨"TokenScanner$Reader", "takeBytesAsUnits", "()V"⟩) ∈ mg_G := mg_t2 225 rfl rfl
theorem hw_467 : (Cond.instanceMethod ⟨"TokenScanner$Reader", "takeBytesAsUnits", "()V"⟩) ∈ mg_G := mg_t2 227 rfl rfl
theorem hw_468 : (Cond.code ⟨"TokenScanner$Reader", "takeBytesAsUnits", "()V"⟩ prog_2_method_17_code 2 none) ∈ mg_G := mg_t2 228 rfl rfl
theorem hw_469 : (Cond.methodLink "TokenScanner$Reader" 74 ⟨"TokenScanner$Reader", "readText", "(I)Z"⟩) ∈ mg_G := mg_t2 229 rfl rfl
theorem hw_471 : (Cond.instanceMethod ⟨"TokenScanner$Reader", "readText", "(I)Z"⟩) ∈ mg_G := mg_t2 231 rfl rfl
theorem hw_472 : (Cond.code ⟨"TokenScanner$Reader", "readText", "(I)Z"⟩ prog_2_method_18_code 3 (some .boolean)) ∈ mg_G := mg_t2 232 rfl rfl
theorem hw_473 : (Cond.methodLink "TokenScanner$Reader" 158 ⟨"TokenScanner$Reader", "readTextEscape", "()Z"⟩) ∈ mg_G := mg_t2 233 rfl rfl
theorem hw_475 : (Cond.instanceMethod ⟨"TokenScanner$Reader", "readTextEscape", "()Z"⟩) ∈ mg_G := mg_t2 235 rfl rfl
theorem hw_476 : (Cond.code ⟨"TokenScanner$Reader", "readTextEscape", "()Z"⟩ prog_2_method_19_code 3 (some .boolean)) ∈ mg_G := mg_t2 236 rfl rfl
theorem hw_477 : (Cond.methodLink "TokenScanner$Reader" 161 ⟨"TokenScanner$Reader", "readZeroEscape", "()Z"⟩) ∈ mg_G := mg_t2 237 rfl rfl
theorem hw_479 : (Cond.instanceMethod ⟨"TokenScanner$Reader", "readZeroEscape", "()Z"⟩) ∈ mg_G := mg_t2 239 rfl rfl
theorem hw_480 : (Cond.code ⟨"TokenScanner$Reader", "readZeroEscape", "()Z"⟩ prog_2_method_20_code 1 (some .boolean)) ∈ mg_G := mg_t3 0 rfl rfl
theorem hw_481 : (Cond.methodLink "TokenScanner$Reader" 164 ⟨"TokenScanner$Reader", "skipSecondOfLineEnd", "(I)V"⟩) ∈ mg_G := mg_t3 1 rfl rfl
theorem hw_483 : (Cond.instanceMethod ⟨"TokenScanner$Reader", "skipSecondOfLineEnd", "(I)V"⟩) ∈ mg_G := mg_t3 3 rfl rfl
theorem hw_484 : (Cond.code ⟨"TokenScanner$Reader", "skipSecondOfLineEnd", "(I)V"⟩ prog_2_method_21_code 2 none) ∈ mg_G := mg_t3 4 rfl rfl
theorem hw_485 : (Cond.methodLink "TokenScanner$Reader" 167 ⟨"TokenScanner$Units", "escapedBy", "(I)I"⟩) ∈ mg_G := mg_t3 5 rfl rfl
theorem hw_486 : (Cond.static ⟨"TokenScanner$Units", "escapedBy", "(I)I"⟩) ∈ mg_G := mg_t3 6 rfl rfl
theorem hw_487 : (Cond.code ⟨"TokenScanner$Units", "escapedBy", "(I)I"⟩ prog_7_method_8_code 1 (some .int)) ∈ mg_G := mg_t3 7 rfl rfl
theorem hw_488 : (Cond.methodLink "TokenScanner$Reader" 77 ⟨"TokenScanner$Reader", "readSign", "()Z"⟩) ∈ mg_G := mg_t3 8 rfl rfl
theorem hw_490 : (Cond.instanceMethod ⟨"TokenScanner$Reader", "readSign", "()Z"⟩) ∈ mg_G := mg_t3 10 rfl rfl
theorem hw_491 : (Cond.code ⟨"TokenScanner$Reader", "readSign", "()Z"⟩ prog_2_method_22_code 2 (some .boolean)) ∈ mg_G := mg_t3 11 rfl rfl
theorem hw_492 : (Cond.methodLink "TokenScanner$Reader" 170 ⟨"TokenScanner$Spellings", "longestAt", "(LTokenScanner$Source;I)I"⟩) ∈ mg_G := mg_t3 12 rfl rfl
theorem hw_493 : (Cond.instanceMethod ⟨"TokenScanner$Spellings", "longestAt", "(LTokenScanner$Source;I)I"⟩) ∈ mg_G := mg_t3 13 rfl rfl
theorem hw_494 : (Cond.selects "TokenScanner$Spellings" ⟨"TokenScanner$Spellings", "longestAt", "(LTokenScanner$Source;I)I"⟩ ⟨"TokenScanner$Spellings", "longestAt", "(LTokenScanner$Source;I)I"⟩) ∈ mg_G := mg_t3 14 rfl rfl
theorem hw_495 : (Cond.code ⟨"TokenScanner$Spellings", "longestAt", "(LTokenScanner$Source;I)I"⟩ prog_5_method_3_code 5 (some .int)) ∈ mg_G := mg_t3 15 rfl rfl
theorem hw_496 : (Cond.methodLink "TokenScanner$Spellings" 43 ⟨"TokenScanner$Spellings", "standsAt", "(ILTokenScanner$Source;I)Z"⟩) ∈ mg_G := mg_t3 16 rfl rfl
theorem hw_498 : (Cond.instanceMethod ⟨"TokenScanner$Spellings", "standsAt", "(ILTokenScanner$Source;I)Z"⟩) ∈ mg_G := mg_t3 18 rfl rfl
theorem hw_499 : (Cond.code ⟨"TokenScanner$Spellings", "standsAt", "(ILTokenScanner$Source;I)Z"⟩ prog_5_method_6_code 6 (some .boolean)) ∈ mg_G := mg_t3 19 rfl rfl
theorem hw_500 : (Cond.methodLink "TokenScanner$Spellings" 56 ⟨"TokenScanner$Source", "at", "(I)I"⟩) ∈ mg_G := mg_t3 20 rfl rfl
theorem hw_501 : (Cond.fieldLinkNest "TokenScanner$Reader" 174 "TokenScanner" "SIGN_NUMBERS" "[I" "TokenScanner") ∈ mg_G := mg_t3 21 rfl rfl
theorem hw_503 : (Cond.methodLink "TokenScanner$Reader" 178 ⟨"TokenScanner$Spellings", "lengthOf", "(I)I"⟩) ∈ mg_G := mg_t3 23 rfl rfl
theorem hw_504 : (Cond.methodLink "TokenScanner" 88 ⟨"TokenScanner", "kindUnlessRefused", "(Z)I"⟩) ∈ mg_G := mg_t3 24 rfl rfl
theorem hw_506 : (Cond.instanceMethod ⟨"TokenScanner", "kindUnlessRefused", "(Z)I"⟩) ∈ mg_G := mg_t3 26 rfl rfl
theorem hw_507 : (Cond.code ⟨"TokenScanner", "kindUnlessRefused", "(Z)I"⟩ prog_1_method_13_code 2 (some .int)) ∈ mg_G := mg_t3 27 rfl rfl
theorem hw_508 : (Cond.methodLink "TokenScanner" 107 ⟨"TokenScanner", "useUp", "()V"⟩) ∈ mg_G := mg_t3 28 rfl rfl
theorem hw_510 : (Cond.instanceMethod ⟨"TokenScanner", "useUp", "()V"⟩) ∈ mg_G := mg_t3 30 rfl rfl
theorem hw_511 : (Cond.code ⟨"TokenScanner", "useUp", "()V"⟩ prog_1_method_14_code 1 none) ∈ mg_G := mg_t3 31 rfl rfl
theorem hw_512 : (Cond.methodLink "TokenScanner" 181 ⟨"TokenScanner$Source", "clear", "()V"⟩) ∈ mg_G := mg_t3 32 rfl rfl
theorem hw_513 : (Cond.instanceMethod ⟨"TokenScanner$Source", "clear", "()V"⟩) ∈ mg_G := mg_t3 33 rfl rfl
theorem hw_514 : (Cond.selects "TokenScanner$Source" ⟨"TokenScanner$Source", "clear", "()V"⟩ ⟨"TokenScanner$Source", "clear", "()V"⟩) ∈ mg_G := mg_t3 34 rfl rfl
theorem hw_515 : (Cond.code ⟨"TokenScanner$Source", "clear", "()V"⟩ prog_4_method_4_code 1 none) ∈ mg_G := mg_t3 35 rfl rfl
theorem hw_517 : (Cond.methodLink "TokenScannerLaw" 68 ⟨"TokenScannerLaw", "next", "(LTokenScanner;[J)I"⟩) ∈ mg_G := mg_t3 37 rfl rfl
theorem hw_518 : (Cond.static ⟨"TokenScannerLaw", "next", "(LTokenScanner;[J)I"⟩) ∈ mg_G := mg_t3 38 rfl rfl
theorem hw_519 : (Cond.codeWith ⟨"TokenScannerLaw", "next", "(LTokenScanner;[J)I"⟩ method_5_code 3 (some .int) [(0, 8, 11, 13), (0, 8, 14, 15)]) ∈ mg_G := mg_t3 39 rfl rfl
theorem hw_520 : (Cond.methodLink "TokenScannerLaw" 21 ⟨"TokenScanner", "next", "()I"⟩) ∈ mg_G := mg_t3 40 rfl rfl
theorem hw_521 : (Cond.instanceMethod ⟨"TokenScanner", "next", "()I"⟩) ∈ mg_G := mg_t3 41 rfl rfl
theorem hw_522 : (Cond.selects "TokenScanner" ⟨"TokenScanner", "next", "()I"⟩ ⟨"TokenScanner", "next", "()I"⟩) ∈ mg_G := mg_t3 42 rfl rfl
theorem hw_523 : (Cond.code ⟨"TokenScanner", "next", "()I"⟩ prog_1_method_4_code 1 (some .int)) ∈ mg_G := mg_t3 43 rfl rfl
theorem hw_525 : (Cond.methodLink "TokenScannerLaw" 71 ⟨"TokenScannerLaw", "pattern", "(LTokenScanner;[J)I"⟩) ∈ mg_G := mg_t3 45 rfl rfl
theorem hw_526 : (Cond.static ⟨"TokenScannerLaw", "pattern", "(LTokenScanner;[J)I"⟩) ∈ mg_G := mg_t3 46 rfl rfl
theorem hw_527 : (Cond.codeWith ⟨"TokenScannerLaw", "pattern", "(LTokenScanner;[J)I"⟩ method_6_code 3 (some .int) [(0, 8, 11, 13), (0, 8, 14, 15)]) ∈ mg_G := mg_t3 47 rfl rfl
theorem hw_528 : (Cond.methodLink "TokenScannerLaw" 24 ⟨"TokenScanner", "pattern", "()I"⟩) ∈ mg_G := mg_t3 48 rfl rfl
theorem hw_529 : (Cond.instanceMethod ⟨"TokenScanner", "pattern", "()I"⟩) ∈ mg_G := mg_t3 49 rfl rfl
theorem hw_530 : (Cond.selects "TokenScanner" ⟨"TokenScanner", "pattern", "()I"⟩ ⟨"TokenScanner", "pattern", "()I"⟩) ∈ mg_G := mg_t3 50 rfl rfl
theorem hw_531 : (Cond.code ⟨"TokenScanner", "pattern", "()I"⟩ prog_1_method_5_code 1 (some .int)) ∈ mg_G := mg_t3 51 rfl rfl
theorem hw_533 : (Cond.methodLink "TokenScanner" 102 ⟨"TokenScanner$Reader", "readPattern", "()Z"⟩) ∈ mg_G := mg_t3 53 rfl rfl
theorem hw_534 : (Cond.instanceMethod ⟨"TokenScanner$Reader", "readPattern", "()Z"⟩) ∈ mg_G := mg_t3 54 rfl rfl
theorem hw_535 : (Cond.selects "TokenScanner$Reader" ⟨"TokenScanner$Reader", "readPattern", "()Z"⟩ ⟨"TokenScanner$Reader", "readPattern", "()Z"⟩) ∈ mg_G := mg_t3 55 rfl rfl
theorem hw_536 : (Cond.code ⟨"TokenScanner$Reader", "readPattern", "()Z"⟩ prog_2_method_4_code 1 (some .boolean)) ∈ mg_G := mg_t3 56 rfl rfl
theorem hw_537 : (Cond.methodLink "TokenScanner$Reader" 89 ⟨"TokenScanner$Reader", "skipPatternBody", "()Z"⟩) ∈ mg_G := mg_t3 57 rfl rfl
theorem hw_539 : (Cond.instanceMethod ⟨"TokenScanner$Reader", "skipPatternBody", "()Z"⟩) ∈ mg_G := mg_t3 59 rfl rfl
theorem hw_540 : (Cond.code ⟨"TokenScanner$Reader", "skipPatternBody", "()Z"⟩ prog_2_method_23_code 4 (some .boolean)) ∈ mg_G := mg_t3 60 rfl rfl
theorem hw_541 : (Cond.methodLink "TokenScannerLaw" 74 ⟨"TokenScannerLaw", "end", "(LTokenScanner;)I"⟩) ∈ mg_G := mg_t3 61 rfl rfl
theorem hw_542 : (Cond.static ⟨"TokenScannerLaw", "end", "(LTokenScanner;)I"⟩) ∈ mg_G := mg_t3 62 rfl rfl
theorem hw_543 : (Cond.codeWith ⟨"TokenScannerLaw", "end", "(LTokenScanner;)I"⟩ method_7_code 2 (some .int) [(0, 4, 7, 15)]) ∈ mg_G := mg_t3 63 rfl rfl
theorem hw_544 : (Cond.methodLink "TokenScannerLaw" 27 ⟨"TokenScanner", "end", "()V"⟩) ∈ mg_G := mg_t3 64 rfl rfl
theorem hw_545 : (Cond.instanceMethod ⟨"TokenScanner", "end", "()V"⟩) ∈ mg_G := mg_t3 65 rfl rfl
theorem hw_546 : (Cond.selects "TokenScanner" ⟨"TokenScanner", "end", "()V"⟩ ⟨"TokenScanner", "end", "()V"⟩) ∈ mg_G := mg_t3 66 rfl rfl
theorem hw_547 : (Cond.code ⟨"TokenScanner", "end", "()V"⟩ prog_1_method_6_code 1 none) ∈ mg_G := mg_t3 67 rfl rfl
theorem hw_549 : (Cond.methodLink "TokenScannerLaw" 82 ⟨"TokenScannerLaw", "token", "(LTokenScanner;I[J)I"⟩) ∈ mg_G := mg_t3 69 rfl rfl
theorem hw_550 : (Cond.static ⟨"TokenScannerLaw", "token", "(LTokenScanner;I[J)I"⟩) ∈ mg_G := mg_t3 70 rfl rfl
theorem hw_551 : (Cond.codeWith ⟨"TokenScannerLaw", "token", "(LTokenScanner;I[J)I"⟩ method_8_code 4 (some .int) [(0, 9, 12, 13), (0, 9, 15, 15)]) ∈ mg_G := mg_t3 71 rfl rfl
theorem hw_552 : (Cond.methodLink "TokenScannerLaw" 30 ⟨"TokenScanner", "token", "(I)I"⟩) ∈ mg_G := mg_t3 72 rfl rfl
theorem hw_553 : (Cond.instanceMethod ⟨"TokenScanner", "token", "(I)I"⟩) ∈ mg_G := mg_t3 73 rfl rfl
theorem hw_554 : (Cond.selects "TokenScanner" ⟨"TokenScanner", "token", "(I)I"⟩ ⟨"TokenScanner", "token", "(I)I"⟩) ∈ mg_G := mg_t3 74 rfl rfl
theorem hw_555 : (Cond.code ⟨"TokenScanner", "token", "(I)I"⟩ prog_1_method_8_code 2 (some .int)) ∈ mg_G := mg_t3 75 rfl rfl
theorem hw_557 : (Cond.methodLink "TokenScanner" 121 ⟨"TokenScanner", "oneIf", "(Z)I"⟩) ∈ mg_G := mg_t3 77 rfl rfl
theorem hw_558 : (Cond.static ⟨"TokenScanner", "oneIf", "(Z)I"⟩) ∈ mg_G := mg_t3 78 rfl rfl
theorem hw_559 : (Cond.code ⟨"TokenScanner", "oneIf", "(Z)I"⟩ prog_1_method_15_code 1 (some .int)) ∈ mg_G := mg_t3 79 rfl rfl
theorem hw_560 : (Cond.methodLink "TokenScanner" 132 ⟨"TokenScanner$Token", "isUseStrict", "()Z"⟩) ∈ mg_G := mg_t3 80 rfl rfl
theorem hw_561 : (Cond.instanceMethod ⟨"TokenScanner$Token", "isUseStrict", "()Z"⟩) ∈ mg_G := mg_t3 81 rfl rfl
theorem hw_562 : (Cond.selects "TokenScanner$Token" ⟨"TokenScanner$Token", "isUseStrict", "()Z"⟩ ⟨"TokenScanner$Token", "isUseStrict", "()Z"⟩) ∈ mg_G := mg_t3 82 rfl rfl
theorem hw_563 : (Cond.code ⟨"TokenScanner$Token", "isUseStrict", "()Z"⟩ prog_6_method_6_code 2 (some .boolean)) ∈ mg_G := mg_t3 83 rfl rfl
theorem hw_565 : (Cond.methodLink "TokenScanner$Token" 43 ⟨"java/lang/String", "length", "()I"⟩) ∈ mg_G := mg_t3 85 rfl rfl
theorem hw_566 : (Cond.methodLink "TokenScanner$Token" 49 ⟨"java/lang/String", "charAt", "(I)C"⟩) ∈ mg_G := mg_t3 86 rfl rfl
theorem hw_567 : (Cond.methodLink "TokenScannerLaw" 86 ⟨"TokenScannerLaw", "unit", "(LTokenScanner;I[J)I"⟩) ∈ mg_G := mg_t3 87 rfl rfl
theorem hw_568 : (Cond.static ⟨"TokenScannerLaw", "unit", "(LTokenScanner;I[J)I"⟩) ∈ mg_G := mg_t3 88 rfl rfl
theorem hw_569 : (Cond.codeWith ⟨"TokenScannerLaw", "unit", "(LTokenScanner;I[J)I"⟩ method_9_code 4 (some .int) [(0, 9, 12, 15), (0, 9, 15, 37)]) ∈ mg_G := mg_t3 89 rfl rfl
theorem hw_570 : (Cond.classLink "TokenScannerLaw" 37 "java/lang/IndexOutOfBoundsException") ∈ mg_G := mg_t3 90 rfl rfl
theorem hw_571 : (Cond.methodLink "TokenScannerLaw" 34 ⟨"TokenScanner", "unit", "(I)I"⟩) ∈ mg_G := mg_t3 91 rfl rfl
theorem hw_572 : (Cond.instanceMethod ⟨"TokenScanner", "unit", "(I)I"⟩) ∈ mg_G := mg_t3 92 rfl rfl
theorem hw_573 : (Cond.selects "TokenScanner" ⟨"TokenScanner", "unit", "(I)I"⟩ ⟨"TokenScanner", "unit", "(I)I"⟩) ∈ mg_G := mg_t3 93 rfl rfl
theorem hw_574 : (Cond.code ⟨"TokenScanner", "unit", "(I)I"⟩ prog_1_method_9_code 2 (some .int)) ∈ mg_G := mg_t3 94 rfl rfl
theorem hw_575 : (Cond.classLink "TokenScanner" 135 "java/lang/IndexOutOfBoundsException") ∈ mg_G := mg_t3 95 rfl rfl
theorem hw_577 : (Cond.castable "java/lang/IndexOutOfBoundsException" "java/lang/IndexOutOfBoundsException") ∈ mg_G := mg_t3 97 rfl rfl
theorem hw_591 : (Cond.methodLink "TokenScannerLaw" 89 ⟨"TokenScannerLaw", "name", "(LTokenScanner;[J)I"⟩) ∈ mg_G := mg_t3 111 rfl rfl
theorem hw_592 : (Cond.static ⟨"TokenScannerLaw", "name", "(LTokenScanner;[J)I"⟩) ∈ mg_G := mg_t3 112 rfl rfl
theorem hw_593 : (Cond.codeWith ⟨"TokenScannerLaw", "name", "(LTokenScanner;[J)I"⟩ method_10_code 3 (some .int) [(0, 8, 11, 15)]) ∈ mg_G := mg_t3 113 rfl rfl
theorem hw_594 : (Cond.methodLink "TokenScannerLaw" 39 ⟨"TokenScanner", "name", "()I"⟩) ∈ mg_G := mg_t3 114 rfl rfl
theorem hw_595 : (Cond.instanceMethod ⟨"TokenScanner", "name", "()I"⟩) ∈ mg_G := mg_t3 115 rfl rfl
theorem hw_596 : (Cond.selects "TokenScanner" ⟨"TokenScanner", "name", "()I"⟩ ⟨"TokenScanner", "name", "()I"⟩) ∈ mg_G := mg_t3 116 rfl rfl
theorem hw_597 : (Cond.code ⟨"TokenScanner", "name", "()I"⟩ prog_1_method_10_code 2 (some .int)) ∈ mg_G := mg_t3 117 rfl rfl
theorem hw_598 : (Cond.methodLink "TokenScanner" 144 ⟨"TokenScanner$Token", "canBeName", "()Z"⟩) ∈ mg_G := mg_t3 118 rfl rfl
theorem hw_599 : (Cond.instanceMethod ⟨"TokenScanner$Token", "canBeName", "()Z"⟩) ∈ mg_G := mg_t3 119 rfl rfl
theorem hw_600 : (Cond.selects "TokenScanner$Token" ⟨"TokenScanner$Token", "canBeName", "()Z"⟩ ⟨"TokenScanner$Token", "canBeName", "()Z"⟩) ∈ mg_G := mg_t3 120 rfl rfl
theorem hw_601 : (Cond.code ⟨"TokenScanner$Token", "canBeName", "()Z"⟩ prog_6_method_4_code 1 (some .boolean)) ∈ mg_G := mg_t3 121 rfl rfl
theorem hw_603 : (Cond.methodLink "TokenScanner" 149 ⟨"TokenScanner$Shelf", "find", "([II)I"⟩) ∈ mg_G := mg_t3 123 rfl rfl
theorem hw_604 : (Cond.instanceMethod ⟨"TokenScanner$Shelf", "find", "([II)I"⟩) ∈ mg_G := mg_t3 124 rfl rfl
theorem hw_605 : (Cond.selects "TokenScanner$Shelf" ⟨"TokenScanner$Shelf", "find", "([II)I"⟩ ⟨"TokenScanner$Shelf", "find", "([II)I"⟩) ∈ mg_G := mg_t3 125 rfl rfl
theorem hw_606 : (Cond.code ⟨"TokenScanner$Shelf", "find", "([II)I"⟩ prog_3_method_6_code 4 (some .int)) ∈ mg_G := mg_t3 126 rfl rfl
theorem hw_607 : (Cond.methodLink "TokenScanner$Shelf" 42 ⟨"TokenScanner$Shelf", "sizeOf", "(I)I"⟩) ∈ mg_G := mg_t3 127 rfl rfl
theorem hw_608 : (Cond.instanceMethod ⟨"TokenScanner$Shelf", "sizeOf", "(I)I"⟩) ∈ mg_G := mg_t3 128 rfl rfl
theorem hw_609 : (Cond.selects "TokenScanner$Shelf" ⟨"TokenScanner$Shelf", "sizeOf", "(I)I"⟩ ⟨"TokenScanner$Shelf", "sizeOf", "(I)I"⟩) ∈ mg_G := mg_t3 129 rfl rfl
theorem hw_610 : (Cond.code ⟨"TokenScanner$Shelf", "sizeOf", "(I)I"⟩ prog_3_method_7_code 2 (some .int)) ∈ mg_G := mg_t3 130 rfl rfl
theorem hw_611 : (Cond.methodLink "TokenScanner$Shelf" 49 ⟨"TokenScanner$Shelf", "holds", "(I)Z"⟩) ∈ mg_G := mg_t3 131 rfl rfl
theorem hw_612 : (Cond.instanceMethod ⟨"TokenScanner$Shelf", "holds", "(I)Z"⟩) ∈ mg_G := mg_t3 132 rfl rfl
theorem hw_613 : (Cond.selects "TokenScanner$Shelf" ⟨"TokenScanner$Shelf", "holds", "(I)Z"⟩ ⟨"TokenScanner$Shelf", "holds", "(I)Z"⟩) ∈ mg_G := mg_t3 133 rfl rfl
theorem hw_614 : (Cond.code ⟨"TokenScanner$Shelf", "holds", "(I)Z"⟩ prog_3_method_3_code 2 (some .boolean)) ∈ mg_G := mg_t3 134 rfl rfl
theorem hw_615 : (Cond.methodLink "TokenScanner$Shelf" 28 ⟨"TokenScanner$Shelf", "startOf", "(I)I"⟩) ∈ mg_G := mg_t3 135 rfl rfl
theorem hw_617 : (Cond.instanceMethod ⟨"TokenScanner$Shelf", "startOf", "(I)I"⟩) ∈ mg_G := mg_t3 137 rfl rfl
theorem hw_618 : (Cond.code ⟨"TokenScanner$Shelf", "startOf", "(I)I"⟩ prog_3_method_9_code 2 (some .int)) ∈ mg_G := mg_t3 138 rfl rfl
theorem hw_619 : (Cond.methodLink "TokenScanner$Shelf" 45 ⟨"TokenScanner$Shelf", "startsWith", "(I[II)Z"⟩) ∈ mg_G := mg_t3 139 rfl rfl
theorem hw_621 : (Cond.instanceMethod ⟨"TokenScanner$Shelf", "startsWith", "(I[II)Z"⟩) ∈ mg_G := mg_t3 141 rfl rfl
theorem hw_622 : (Cond.code ⟨"TokenScanner$Shelf", "startsWith", "(I[II)Z"⟩ prog_3_method_10_code 6 (some .boolean)) ∈ mg_G := mg_t3 142 rfl rfl
theorem hw_623 : (Cond.methodLink "TokenScanner" 153 ⟨"TokenScanner$Shelf", "add", "([II)I"⟩) ∈ mg_G := mg_t3 143 rfl rfl
theorem hw_624 : (Cond.instanceMethod ⟨"TokenScanner$Shelf", "add", "([II)I"⟩) ∈ mg_G := mg_t3 144 rfl rfl
theorem hw_625 : (Cond.selects "TokenScanner$Shelf" ⟨"TokenScanner$Shelf", "add", "([II)I"⟩ ⟨"TokenScanner$Shelf", "add", "([II)I"⟩) ∈ mg_G := mg_t3 145 rfl rfl
theorem hw_626 : (Cond.code ⟨"TokenScanner$Shelf", "add", "([II)I"⟩ prog_3_method_5_code 4 (some .int)) ∈ mg_G := mg_t3 146 rfl rfl
theorem hw_627 : (Cond.methodLink "TokenScanner$Shelf" 32 ⟨"TokenScanner$Shelf", "hasRoomFor", "(I)Z"⟩) ∈ mg_G := mg_t3 147 rfl rfl
theorem hw_628 : (Cond.instanceMethod ⟨"TokenScanner$Shelf", "hasRoomFor", "(I)Z"⟩) ∈ mg_G := mg_t3 148 rfl rfl
theorem hw_629 : (Cond.selects "TokenScanner$Shelf" ⟨"TokenScanner$Shelf", "hasRoomFor", "(I)Z"⟩ ⟨"TokenScanner$Shelf", "hasRoomFor", "(I)Z"⟩) ∈ mg_G := mg_t3 149 rfl rfl
theorem hw_630 : (Cond.code ⟨"TokenScanner$Shelf", "hasRoomFor", "(I)Z"⟩ prog_3_method_4_code 2 (some .boolean)) ∈ mg_G := mg_t3 150 rfl rfl
theorem hw_631 : (Cond.methodLink "TokenScanner$Shelf" 36 ⟨"java/lang/System", "arraycopy", "(Ljava/lang/Object;ILjava/lang/Object;II)V"⟩) ∈ mg_G := mg_t3 151 rfl rfl
theorem hw_632 : (Cond.methodLink "TokenScannerLaw" 92 ⟨"TokenScannerLaw", "literal", "(LTokenScanner;[J)I"⟩) ∈ mg_G := mg_t3 152 rfl rfl
theorem hw_633 : (Cond.static ⟨"TokenScannerLaw", "literal", "(LTokenScanner;[J)I"⟩) ∈ mg_G := mg_t3 153 rfl rfl
theorem hw_634 : (Cond.codeWith ⟨"TokenScannerLaw", "literal", "(LTokenScanner;[J)I"⟩ method_11_code 3 (some .int) [(0, 8, 11, 15)]) ∈ mg_G := mg_t3 154 rfl rfl
theorem hw_635 : (Cond.methodLink "TokenScannerLaw" 42 ⟨"TokenScanner", "literal", "()I"⟩) ∈ mg_G := mg_t3 155 rfl rfl
theorem hw_636 : (Cond.instanceMethod ⟨"TokenScanner", "literal", "()I"⟩) ∈ mg_G := mg_t3 156 rfl rfl
theorem hw_637 : (Cond.selects "TokenScanner" ⟨"TokenScanner", "literal", "()I"⟩ ⟨"TokenScanner", "literal", "()I"⟩) ∈ mg_G := mg_t3 157 rfl rfl
theorem hw_638 : (Cond.code ⟨"TokenScanner", "literal", "()I"⟩ prog_1_method_11_code 1 (some .int)) ∈ mg_G := mg_t3 158 rfl rfl
theorem hw_639 : (Cond.methodLink "TokenScanner" 155 ⟨"TokenScanner$Token", "canBeLiteral", "()Z"⟩) ∈ mg_G := mg_t3 159 rfl rfl
theorem hw_640 : (Cond.instanceMethod ⟨"TokenScanner$Token", "canBeLiteral", "()Z"⟩) ∈ mg_G := mg_t3 160 rfl rfl
theorem hw_641 : (Cond.selects "TokenScanner$Token" ⟨"TokenScanner$Token", "canBeLiteral", "()Z"⟩ ⟨"TokenScanner$Token", "canBeLiteral", "()Z"⟩) ∈ mg_G := mg_t3 161 rfl rfl
theorem hw_642 : (Cond.code ⟨"TokenScanner$Token", "canBeLiteral", "()Z"⟩ prog_6_method_5_code 1 (some .boolean)) ∈ mg_G := mg_t3 162 rfl rfl
theorem hw_644 : (Cond.methodLink "TokenScanner" 160 ⟨"TokenScanner$Shelf", "hasRoomFor", "(I)Z"⟩) ∈ mg_G := mg_t3 164 rfl rfl
theorem hw_646 : (Cond.methodLink "TokenScannerLaw" 95 ⟨"TokenScannerLaw", "text", "(LTokenScanner;ZII[J)I"⟩) ∈ mg_G := mg_t3 166 rfl rfl
theorem hw_647 : (Cond.static ⟨"TokenScannerLaw", "text", "(LTokenScanner;ZII[J)I"⟩) ∈ mg_G := mg_t3 167 rfl rfl
theorem hw_648 : (Cond.codeWith ⟨"TokenScannerLaw", "text", "(LTokenScanner;ZII[J)I"⟩ method_12_code 6 (some .int) [(0, 12, 15, 37)]) ∈ mg_G := mg_t3 168 rfl rfl
theorem hw_649 : (Cond.methodLink "TokenScannerLaw" 45 ⟨"TokenScanner", "text", "(ZII)I"⟩) ∈ mg_G := mg_t3 169 rfl rfl
theorem hw_650 : (Cond.instanceMethod ⟨"TokenScanner", "text", "(ZII)I"⟩) ∈ mg_G := mg_t3 170 rfl rfl
theorem hw_651 : (Cond.selects "TokenScanner" ⟨"TokenScanner", "text", "(ZII)I"⟩ ⟨"TokenScanner", "text", "(ZII)I"⟩) ∈ mg_G := mg_t3 171 rfl rfl
theorem hw_652 : (Cond.code ⟨"TokenScanner", "text", "(ZII)I"⟩ prog_1_method_12_code 5 (some .int)) ∈ mg_G := mg_t3 172 rfl rfl
theorem hw_653 : (Cond.methodLink "TokenScanner" 163 ⟨"TokenScanner$Shelf", "holds", "(I)Z"⟩) ∈ mg_G := mg_t3 173 rfl rfl
theorem hw_655 : (Cond.methodLink "TokenScanner" 168 ⟨"TokenScanner$Shelf", "sizeOf", "(I)I"⟩) ∈ mg_G := mg_t3 175 rfl rfl
theorem hw_657 : (Cond.methodLink "TokenScanner" 174 ⟨"TokenScanner$Shelf", "unitOf", "(II)I"⟩) ∈ mg_G := mg_t3 177 rfl rfl
theorem hw_658 : (Cond.instanceMethod ⟨"TokenScanner$Shelf", "unitOf", "(II)I"⟩) ∈ mg_G := mg_t3 178 rfl rfl
theorem hw_659 : (Cond.selects "TokenScanner$Shelf" ⟨"TokenScanner$Shelf", "unitOf", "(II)I"⟩ ⟨"TokenScanner$Shelf", "unitOf", "(II)I"⟩) ∈ mg_G := mg_t3 179 rfl rfl
theorem hw_660 : (Cond.code ⟨"TokenScanner$Shelf", "unitOf", "(II)I"⟩ prog_3_method_8_code 3 (some .int)) ∈ mg_G := mg_t3 180 rfl rfl
theorem hw_661 : (Cond.classLink "TokenScannerLaw" 50 "TokenScannerModel") ∈ mg_G := mg_t3 181 rfl rfl
theorem hw_662 : (Cond.instantiable "TokenScannerModel" 21) ∈ mg_G := mg_t3 182 rfl rfl
theorem hw_663 : (Cond.methodLink "TokenScannerLaw" 52 ⟨"TokenScannerModel", "<init>", "()V"⟩) ∈ mg_G := mg_t3 183 rfl rfl
theorem hw_664 : (Cond.instanceMethod ⟨"TokenScannerModel", "<init>", "()V"⟩) ∈ mg_G := mg_t3 184 rfl rfl
theorem hw_665 : (Cond.code ⟨"TokenScannerModel", "<init>", "()V"⟩ prog_9_method_1_code 1 none) ∈ mg_G := mg_t3 185 rfl rfl
theorem hw_666 : (Cond.methodLink "TokenScannerModel" 1 ⟨"java/lang/Object", "<init>", "()V"⟩) ∈ mg_G := mg_t3 186 rfl rfl
theorem hw_667 : (Cond.fieldLink "TokenScannerModel" 32 "TokenScannerModel" "thrown" "I") ∈ mg_G := mg_t3 187 rfl rfl
theorem hw_668 : (Cond.fieldLink "TokenScannerModel" 7 "TokenScannerModel" "text" "[I") ∈ mg_G := mg_t3 188 rfl rfl
theorem hw_669 : (Cond.fieldLink "TokenScannerModel" 39 "TokenScannerModel" "size" "I") ∈ mg_G := mg_t3 189 rfl rfl
theorem hw_670 : (Cond.fieldLink "TokenScannerModel" 35 "TokenScannerModel" "there" "Z") ∈ mg_G := mg_t3 190 rfl rfl
theorem hw_671 : (Cond.fieldLink "TokenScannerModel" 13 "TokenScannerModel" "place" "I") ∈ mg_G := mg_t3 191 rfl rfl
theorem hw_672 : (Cond.fieldLink "TokenScannerModel" 52 "TokenScannerModel" "bad" "I") ∈ mg_G := mg_t3 192 rfl rfl
theorem hw_673 : (Cond.fieldLink "TokenScannerModel" 72 "TokenScannerModel" "at" "I") ∈ mg_G := mg_t3 193 rfl rfl
theorem hw_674 : (Cond.fieldLink "TokenScannerModel" 84 "TokenScannerModel" "kind" "I") ∈ mg_G := mg_t3 194 rfl rfl
theorem hw_675 : (Cond.fieldLink "TokenScannerModel" 222 "TokenScannerModel" "from" "I") ∈ mg_G := mg_t3 195 rfl rfl
theorem hw_676 : (Cond.fieldLink "TokenScannerModel" 65 "TokenScannerModel" "line" "I") ∈ mg_G := mg_t3 196 rfl rfl
theorem hw_677 : (Cond.fieldLink "TokenScannerModel" 104 "TokenScannerModel" "word" "I") ∈ mg_G := mg_t3 197 rfl rfl
theorem hw_678 : (Cond.fieldLink "TokenScannerModel" 97 "TokenScannerModel" "escaped" "I") ∈ mg_G := mg_t3 198 rfl rfl
theorem hw_679 : (Cond.fieldLink "TokenScannerModel" 311 "TokenScannerModel" "sign" "I") ∈ mg_G := mg_t3 199 rfl rfl
theorem hw_680 : (Cond.fieldLink "TokenScannerModel" 17 "TokenScannerModel" "units" "[I") ∈ mg_G := mg_t3 200 rfl rfl
theorem hw_681 : (Cond.fieldLink "TokenScannerModel" 55 "TokenScannerModel" "many" "I") ∈ mg_G := mg_t3 201 rfl rfl
theorem hw_682 : (Cond.fieldLink "TokenScannerModel" 332 "TokenScannerModel" "names" "I") ∈ mg_G := mg_t3 202 rfl rfl
theorem hw_683 : (Cond.fieldLink "TokenScannerModel" 20 "TokenScannerModel" "nameEnd" "[I") ∈ mg_G := mg_t3 203 rfl rfl
theorem hw_684 : (Cond.fieldLink "TokenScannerModel" 23 "TokenScannerModel" "nameUnits" "[I") ∈ mg_G := mg_t3 204 rfl rfl
theorem hw_685 : (Cond.fieldLink "TokenScannerModel" 335 "TokenScannerModel" "literals" "I") ∈ mg_G := mg_t3 205 rfl rfl
theorem hw_686 : (Cond.fieldLink "TokenScannerModel" 26 "TokenScannerModel" "literalEnd" "[I") ∈ mg_G := mg_t3 206 rfl rfl
theorem hw_687 : (Cond.fieldLink "TokenScannerModel" 29 "TokenScannerModel" "literalUnits" "[I") ∈ mg_G := mg_t3 207 rfl rfl
theorem hw_688 : (Cond.lays "TokenScannerModel" "TokenScannerModel" "thrown" "I") ∈ mg_G := mg_t3 208 rfl rfl
theorem hw_690 : (Cond.laysFinal "TokenScannerModel" "TokenScannerModel" "text" "[I") ∈ mg_G := mg_t3 210 rfl rfl
theorem hw_692 : (Cond.lays "TokenScannerModel" "TokenScannerModel" "size" "I") ∈ mg_G := mg_t3 212 rfl rfl
theorem hw_694 : (Cond.lays "TokenScannerModel" "TokenScannerModel" "there" "Z") ∈ mg_G := mg_t3 214 rfl rfl
theorem hw_696 : (Cond.lays "TokenScannerModel" "TokenScannerModel" "place" "I") ∈ mg_G := mg_t3 216 rfl rfl
theorem hw_698 : (Cond.lays "TokenScannerModel" "TokenScannerModel" "bad" "I") ∈ mg_G := mg_t3 218 rfl rfl
theorem hw_700 : (Cond.lays "TokenScannerModel" "TokenScannerModel" "at" "I") ∈ mg_G := mg_t3 220 rfl rfl
theorem hw_702 : (Cond.lays "TokenScannerModel" "TokenScannerModel" "kind" "I") ∈ mg_G := mg_t3 222 rfl rfl
theorem hw_704 : (Cond.lays "TokenScannerModel" "TokenScannerModel" "from" "I") ∈ mg_G := mg_t3 224 rfl rfl
theorem hw_706 : (Cond.lays "TokenScannerModel" "TokenScannerModel" "line" "I") ∈ mg_G := mg_t3 226 rfl rfl
theorem hw_708 : (Cond.lays "TokenScannerModel" "TokenScannerModel" "word" "I") ∈ mg_G := mg_t3 228 rfl rfl
theorem hw_710 : (Cond.lays "TokenScannerModel" "TokenScannerModel" "escaped" "I") ∈ mg_G := mg_t3 230 rfl rfl
theorem hw_712 : (Cond.lays "TokenScannerModel" "TokenScannerModel" "sign" "I") ∈ mg_G := mg_t3 232 rfl rfl
theorem hw_714 : (Cond.laysFinal "TokenScannerModel" "TokenScannerModel" "units" "[I") ∈ mg_G := mg_t3 234 rfl rfl
theorem hw_716 : (Cond.lays "TokenScannerModel" "TokenScannerModel" "many" "I") ∈ mg_G := mg_t3 236 rfl rfl
theorem hw_718 : (Cond.lays "TokenScannerModel" "TokenScannerModel" "names" "I") ∈ mg_G := mg_t3 238 rfl rfl
theorem hw_720 : (Cond.laysFinal "TokenScannerModel" "TokenScannerModel" "nameEnd" "[I") ∈ mg_G := mg_t4 0 rfl rfl
theorem hw_722 : (Cond.laysFinal "TokenScannerModel" "TokenScannerModel" "nameUnits" "[I") ∈ mg_G := mg_t4 2 rfl rfl
theorem hw_724 : (Cond.lays "TokenScannerModel" "TokenScannerModel" "literals" "I") ∈ mg_G := mg_t4 4 rfl rfl
theorem hw_726 : (Cond.laysFinal "TokenScannerModel" "TokenScannerModel" "literalEnd" "[I") ∈ mg_G := mg_t4 6 rfl rfl
theorem hw_728 : (Cond.laysFinal "TokenScannerModel" "TokenScannerModel" "literalUnits" "[I") ∈ mg_G := mg_t4 8 rfl rfl
theorem hw_731 : (Cond.methodLink "TokenScannerLaw" 61 ⟨"TokenScannerModel", "thrown", "()I"⟩) ∈ mg_G := mg_t4 11 rfl rfl
theorem hw_732 : (Cond.instanceMethod ⟨"TokenScannerModel", "thrown", "()I"⟩) ∈ mg_G := mg_t4 12 rfl rfl
theorem hw_733 : (Cond.selects "TokenScannerModel" ⟨"TokenScannerModel", "thrown", "()I"⟩ ⟨"TokenScannerModel", "thrown", "()I"⟩) ∈ mg_G := mg_t4 13 rfl rfl
theorem hw_734 : (Cond.code ⟨"TokenScannerModel", "thrown", "()I"⟩ prog_9_method_2_code 1 (some .int)) ∈ mg_G := mg_t4 14 rfl rfl
theorem hw_735 : (Cond.methodLink "TokenScannerLaw" 60 ⟨"TokenScannerModel", "feed", "(JI)I"⟩) ∈ mg_G := mg_t4 15 rfl rfl
theorem hw_736 : (Cond.instanceMethod ⟨"TokenScannerModel", "feed", "(JI)I"⟩) ∈ mg_G := mg_t4 16 rfl rfl
theorem hw_737 : (Cond.selects "TokenScannerModel" ⟨"TokenScannerModel", "feed", "(JI)I"⟩ ⟨"TokenScannerModel", "feed", "(JI)I"⟩) ∈ mg_G := mg_t4 17 rfl rfl
theorem hw_738 : (Cond.code ⟨"TokenScannerModel", "feed", "(JI)I"⟩ prog_9_method_4_code 6 (some .int)) ∈ mg_G := mg_t4 18 rfl rfl
theorem hw_739 : (Cond.methodLink "TokenScannerModel" 42 ⟨"TokenScannerModel", "throwing", "(ZZ)Z"⟩) ∈ mg_G := mg_t4 19 rfl rfl
theorem hw_741 : (Cond.instanceMethod ⟨"TokenScannerModel", "throwing", "(ZZ)Z"⟩) ∈ mg_G := mg_t4 21 rfl rfl
theorem hw_742 : (Cond.code ⟨"TokenScannerModel", "throwing", "(ZZ)Z"⟩ prog_9_method_3_code 3 (some .boolean)) ∈ mg_G := mg_t4 22 rfl rfl
theorem hw_743 : (Cond.constantLong "TokenScannerModel" 46 255) ∈ mg_G := mg_t4 23 rfl rfl
theorem hw_744 : (Cond.methodLink "TokenScannerLaw" 67 ⟨"TokenScannerModel", "begin", "()I"⟩) ∈ mg_G := mg_t4 24 rfl rfl
theorem hw_745 : (Cond.instanceMethod ⟨"TokenScannerModel", "begin", "()I"⟩) ∈ mg_G := mg_t4 25 rfl rfl
theorem hw_746 : (Cond.selects "TokenScannerModel" ⟨"TokenScannerModel", "begin", "()I"⟩ ⟨"TokenScannerModel", "begin", "()I"⟩) ∈ mg_G := mg_t4 26 rfl rfl
theorem hw_747 : (Cond.code ⟨"TokenScannerModel", "begin", "()I"⟩ prog_9_method_32_code 1 (some .int)) ∈ mg_G := mg_t4 27 rfl rfl
theorem hw_748 : (Cond.methodLink "TokenScannerModel" 338 ⟨"TokenScannerModel", "readToken", "()I"⟩) ∈ mg_G := mg_t4 28 rfl rfl
theorem hw_750 : (Cond.instanceMethod ⟨"TokenScannerModel", "readToken", "()I"⟩) ∈ mg_G := mg_t4 30 rfl rfl
theorem hw_751 : (Cond.code ⟨"TokenScannerModel", "readToken", "()I"⟩ prog_9_method_31_code 2 (some .int)) ∈ mg_G := mg_t4 31 rfl rfl
theorem hw_752 : (Cond.methodLink "TokenScannerModel" 314 ⟨"TokenScannerModel", "skip", "()V"⟩) ∈ mg_G := mg_t4 32 rfl rfl
theorem hw_754 : (Cond.instanceMethod ⟨"TokenScannerModel", "skip", "()V"⟩) ∈ mg_G := mg_t4 34 rfl rfl
theorem hw_755 : (Cond.code ⟨"TokenScannerModel", "skip", "()V"⟩ prog_9_method_14_code 2 none) ∈ mg_G := mg_t4 35 rfl rfl
theorem hw_756 : (Cond.methodLink "TokenScannerModel" 58 ⟨"TokenScannerModel", "see", "(I)I"⟩) ∈ mg_G := mg_t4 36 rfl rfl
theorem hw_758 : (Cond.instanceMethod ⟨"TokenScannerModel", "see", "(I)I"⟩) ∈ mg_G := mg_t4 38 rfl rfl
theorem hw_759 : (Cond.code ⟨"TokenScannerModel", "see", "(I)I"⟩ prog_9_method_5_code 2 (some .int)) ∈ mg_G := mg_t4 39 rfl rfl
theorem hw_760 : (Cond.methodLink "TokenScannerModel" 75 ⟨"TokenScannerModel", "isBlank", "(I)Z"⟩) ∈ mg_G := mg_t4 40 rfl rfl
theorem hw_761 : (Cond.static ⟨"TokenScannerModel", "isBlank", "(I)Z"⟩) ∈ mg_G := mg_t4 41 rfl rfl
theorem hw_762 : (Cond.code ⟨"TokenScannerModel", "isBlank", "(I)Z"⟩ prog_9_method_10_code 1 (some .boolean)) ∈ mg_G := mg_t4 42 rfl rfl
theorem hw_763 : (Cond.methodLink "TokenScannerModel" 62 ⟨"TokenScannerModel", "isLineEnd", "(I)Z"⟩) ∈ mg_G := mg_t4 43 rfl rfl
theorem hw_764 : (Cond.static ⟨"TokenScannerModel", "isLineEnd", "(I)Z"⟩) ∈ mg_G := mg_t4 44 rfl rfl
theorem hw_765 : (Cond.code ⟨"TokenScannerModel", "isLineEnd", "(I)Z"⟩ prog_9_method_9_code 1 (some .boolean)) ∈ mg_G := mg_t4 45 rfl rfl
theorem hw_766 : (Cond.methodLink "TokenScannerModel" 78 ⟨"TokenScannerModel", "behindComment", "(I)I"⟩) ∈ mg_G := mg_t4 46 rfl rfl
theorem hw_768 : (Cond.instanceMethod ⟨"TokenScannerModel", "behindComment", "(I)I"⟩) ∈ mg_G := mg_t4 48 rfl rfl
theorem hw_769 : (Cond.code ⟨"TokenScannerModel", "behindComment", "(I)I"⟩ prog_9_method_13_code 3 (some .int)) ∈ mg_G := mg_t4 49 rfl rfl
theorem hw_770 : (Cond.methodLink "TokenScannerModel" 68 ⟨"TokenScannerModel", "fail", "(I)V"⟩) ∈ mg_G := mg_t4 50 rfl rfl
theorem hw_772 : (Cond.instanceMethod ⟨"TokenScannerModel", "fail", "(I)V"⟩) ∈ mg_G := mg_t4 52 rfl rfl
theorem hw_773 : (Cond.code ⟨"TokenScannerModel", "fail", "(I)V"⟩ prog_9_method_11_code 2 none) ∈ mg_G := mg_t4 53 rfl rfl
theorem hw_774 : (Cond.methodLink "TokenScannerModel" 317 ⟨"TokenScannerModel", "done", "()I"⟩) ∈ mg_G := mg_t4 54 rfl rfl
theorem hw_776 : (Cond.instanceMethod ⟨"TokenScannerModel", "done", "()I"⟩) ∈ mg_G := mg_t4 56 rfl rfl
theorem hw_777 : (Cond.code ⟨"TokenScannerModel", "done", "()I"⟩ prog_9_method_30_code 1 (some .int)) ∈ mg_G := mg_t4 57 rfl rfl
theorem hw_778 : (Cond.methodLink "TokenScannerModel" 91 ⟨"TokenScannerModel", "isLetter", "(I)Z"⟩) ∈ mg_G := mg_t4 58 rfl rfl
theorem hw_779 : (Cond.static ⟨"TokenScannerModel", "isLetter", "(I)Z"⟩) ∈ mg_G := mg_t4 59 rfl rfl
theorem hw_780 : (Cond.code ⟨"TokenScannerModel", "isLetter", "(I)Z"⟩ prog_9_method_8_code 2 (some .boolean)) ∈ mg_G := mg_t4 60 rfl rfl
theorem hw_781 : (Cond.methodLink "TokenScannerModel" 320 ⟨"TokenScannerModel", "readName", "()V"⟩) ∈ mg_G := mg_t4 61 rfl rfl
theorem hw_783 : (Cond.instanceMethod ⟨"TokenScannerModel", "readName", "()V"⟩) ∈ mg_G := mg_t4 63 rfl rfl
theorem hw_784 : (Cond.code ⟨"TokenScannerModel", "readName", "()V"⟩ prog_9_method_16_code 4 none) ∈ mg_G := mg_t4 64 rfl rfl
theorem hw_785 : (Cond.methodLink "TokenScannerModel" 87 ⟨"TokenScannerModel", "digits", "(II)I"⟩) ∈ mg_G := mg_t4 65 rfl rfl
theorem hw_787 : (Cond.instanceMethod ⟨"TokenScannerModel", "digits", "(II)I"⟩) ∈ mg_G := mg_t4 67 rfl rfl
theorem hw_788 : (Cond.code ⟨"TokenScannerModel", "digits", "(II)I"⟩ prog_9_method_15_code 5 (some .int)) ∈ mg_G := mg_t4 68 rfl rfl
theorem hw_789 : (Cond.methodLink "TokenScannerModel" 81 ⟨"TokenScannerModel", "hexadecimal", "(I)I"⟩) ∈ mg_G := mg_t4 69 rfl rfl
theorem hw_790 : (Cond.static ⟨"TokenScannerModel", "hexadecimal", "(I)I"⟩) ∈ mg_G := mg_t4 70 rfl rfl
theorem hw_791 : (Cond.code ⟨"TokenScannerModel", "hexadecimal", "(I)I"⟩ prog_9_method_7_code 1 (some .int)) ∈ mg_G := mg_t4 71 rfl rfl
theorem hw_792 : (Cond.methodLink "TokenScannerModel" 48 ⟨"TokenScannerModel", "isDigit", "(I)Z"⟩) ∈ mg_G := mg_t4 72 rfl rfl
theorem hw_793 : (Cond.static ⟨"TokenScannerModel", "isDigit", "(I)Z"⟩) ∈ mg_G := mg_t4 73 rfl rfl
theorem hw_794 : (Cond.code ⟨"TokenScannerModel", "isDigit", "(I)Z"⟩ prog_9_method_6_code 1 (some .boolean)) ∈ mg_G := mg_t4 74 rfl rfl
theorem hw_795 : (Cond.methodLink "TokenScannerModel" 94 ⟨"TokenScannerModel", "add", "(I)V"⟩) ∈ mg_G := mg_t4 75 rfl rfl
theorem hw_797 : (Cond.instanceMethod ⟨"TokenScannerModel", "add", "(I)V"⟩) ∈ mg_G := mg_t4 77 rfl rfl
theorem hw_798 : (Cond.code ⟨"TokenScannerModel", "add", "(I)V"⟩ prog_9_method_12_code 2 none) ∈ mg_G := mg_t4 78 rfl rfl
theorem hw_799 : (Cond.methodLink "TokenScannerModel" 100 ⟨"TokenScannerModel", "wordOf", "()I"⟩) ∈ mg_G := mg_t4 79 rfl rfl
theorem hw_801 : (Cond.instanceMethod ⟨"TokenScannerModel", "wordOf", "()I"⟩) ∈ mg_G := mg_t4 81 rfl rfl
theorem hw_802 : (Cond.code ⟨"TokenScannerModel", "wordOf", "()I"⟩ prog_9_method_19_code 3 (some .int)) ∈ mg_G := mg_t4 82 rfl rfl
theorem hw_803 : (Cond.methodLink "TokenScannerModel" 208 ⟨"TokenScannerModel", "wordNumbered", "(I)Ljava/lang/String;"⟩) ∈ mg_G := mg_t4 83 rfl rfl
theorem hw_804 : (Cond.static ⟨"TokenScannerModel", "wordNumbered", "(I)Ljava/lang/String;"⟩) ∈ mg_G := mg_t4 84 rfl rfl
theorem hw_805 : (Cond.code ⟨"TokenScannerModel", "wordNumbered", "(I)Ljava/lang/String;"⟩ prog_9_method_17_code 1 (some (.object "java/lang/String"))) ∈ mg_G := mg_t4 85 rfl rfl
theorem hw_852 : (Cond.methodLink "TokenScannerModel" 212 ⟨"TokenScannerModel", "isText", "(Ljava/lang/String;)Z"⟩) ∈ mg_G := mg_t4 132 rfl rfl
theorem hw_854 : (Cond.instanceMethod ⟨"TokenScannerModel", "isText", "(Ljava/lang/String;)Z"⟩) ∈ mg_G := mg_t4 134 rfl rfl
theorem hw_855 : (Cond.code ⟨"TokenScannerModel", "isText", "(Ljava/lang/String;)Z"⟩ prog_9_method_18_code 4 (some .boolean)) ∈ mg_G := mg_t4 135 rfl rfl
theorem hw_856 : (Cond.methodLink "TokenScannerModel" 199 ⟨"java/lang/String", "length", "()I"⟩) ∈ mg_G := mg_t4 136 rfl rfl
theorem hw_857 : (Cond.methodLink "TokenScannerModel" 204 ⟨"java/lang/String", "charAt", "(I)C"⟩) ∈ mg_G := mg_t4 137 rfl rfl
theorem hw_858 : (Cond.methodLink "TokenScannerModel" 323 ⟨"TokenScannerModel", "readNumber", "()V"⟩) ∈ mg_G := mg_t4 138 rfl rfl
theorem hw_860 : (Cond.instanceMethod ⟨"TokenScannerModel", "readNumber", "()V"⟩) ∈ mg_G := mg_t4 140 rfl rfl
theorem hw_861 : (Cond.code ⟨"TokenScannerModel", "readNumber", "()V"⟩ prog_9_method_22_code 2 none) ∈ mg_G := mg_t4 141 rfl rfl
theorem hw_862 : (Cond.methodLink "TokenScannerModel" 219 ⟨"TokenScannerModel", "readDecimal", "()V"⟩) ∈ mg_G := mg_t4 142 rfl rfl
theorem hw_864 : (Cond.instanceMethod ⟨"TokenScannerModel", "readDecimal", "()V"⟩) ∈ mg_G := mg_t4 144 rfl rfl
theorem hw_865 : (Cond.code ⟨"TokenScannerModel", "readDecimal", "()V"⟩ prog_9_method_21_code 2 none) ∈ mg_G := mg_t4 145 rfl rfl
theorem hw_866 : (Cond.methodLink "TokenScannerModel" 216 ⟨"TokenScannerModel", "readDigits", "()V"⟩) ∈ mg_G := mg_t4 146 rfl rfl
theorem hw_868 : (Cond.instanceMethod ⟨"TokenScannerModel", "readDigits", "()V"⟩) ∈ mg_G := mg_t4 148 rfl rfl
theorem hw_869 : (Cond.code ⟨"TokenScannerModel", "readDigits", "()V"⟩ prog_9_method_20_code 1 none) ∈ mg_G := mg_t4 149 rfl rfl
theorem hw_870 : (Cond.methodLink "TokenScannerModel" 326 ⟨"TokenScannerModel", "readText", "()V"⟩) ∈ mg_G := mg_t4 150 rfl rfl
theorem hw_872 : (Cond.instanceMethod ⟨"TokenScannerModel", "readText", "()V"⟩) ∈ mg_G := mg_t4 152 rfl rfl
theorem hw_873 : (Cond.code ⟨"TokenScannerModel", "readText", "()V"⟩ prog_9_method_24_code 3 none) ∈ mg_G := mg_t4 153 rfl rfl
theorem hw_874 : (Cond.methodLink "TokenScannerModel" 225 ⟨"TokenScannerModel", "readEscape", "()V"⟩) ∈ mg_G := mg_t4 154 rfl rfl
theorem hw_876 : (Cond.instanceMethod ⟨"TokenScannerModel", "readEscape", "()V"⟩) ∈ mg_G := mg_t4 156 rfl rfl
theorem hw_877 : (Cond.code ⟨"TokenScannerModel", "readEscape", "()V"⟩ prog_9_method_23_code 3 none) ∈ mg_G := mg_t4 157 rfl rfl
theorem hw_878 : (Cond.methodLink "TokenScannerModel" 329 ⟨"TokenScannerModel", "readSign", "()V"⟩) ∈ mg_G := mg_t4 158 rfl rfl
theorem hw_880 : (Cond.instanceMethod ⟨"TokenScannerModel", "readSign", "()V"⟩) ∈ mg_G := mg_t4 160 rfl rfl
theorem hw_881 : (Cond.code ⟨"TokenScannerModel", "readSign", "()V"⟩ prog_9_method_28_code 3 none) ∈ mg_G := mg_t4 161 rfl rfl
theorem hw_882 : (Cond.methodLink "TokenScannerModel" 308 ⟨"TokenScannerModel", "lengthOf", "(I)I"⟩) ∈ mg_G := mg_t4 162 rfl rfl
theorem hw_884 : (Cond.instanceMethod ⟨"TokenScannerModel", "lengthOf", "(I)I"⟩) ∈ mg_G := mg_t4 164 rfl rfl
theorem hw_885 : (Cond.code ⟨"TokenScannerModel", "lengthOf", "(I)I"⟩ prog_9_method_27_code 6 (some .int)) ∈ mg_G := mg_t4 165 rfl rfl
theorem hw_886 : (Cond.methodLink "TokenScannerModel" 305 ⟨"TokenScannerModel", "signNumbered", "(I)Ljava/lang/String;"⟩) ∈ mg_G := mg_t4 166 rfl rfl
theorem hw_887 : (Cond.static ⟨"TokenScannerModel", "signNumbered", "(I)Ljava/lang/String;"⟩) ∈ mg_G := mg_t4 167 rfl rfl
theorem hw_888 : (Cond.code ⟨"TokenScannerModel", "signNumbered", "(I)Ljava/lang/String;"⟩ prog_9_method_25_code 1 (some (.object "java/lang/String"))) ∈ mg_G := mg_t4 168 rfl rfl
theorem hw_915 : (Cond.methodLink "TokenScannerModel" 280 ⟨"TokenScannerModel", "operator", "(I)Ljava/lang/String;"⟩) ∈ mg_G := mg_t4 195 rfl rfl
theorem hw_916 : (Cond.static ⟨"TokenScannerModel", "operator", "(I)Ljava/lang/String;"⟩) ∈ mg_G := mg_t4 196 rfl rfl
theorem hw_917 : (Cond.code ⟨"TokenScannerModel", "operator", "(I)Ljava/lang/String;"⟩ prog_9_method_26_code 1 (some (.object "java/lang/String"))) ∈ mg_G := mg_t4 197 rfl rfl
theorem hw_929 : (Cond.methodLink "TokenScannerLaw" 70 ⟨"TokenScannerModel", "next", "()I"⟩) ∈ mg_G := mg_t4 209 rfl rfl
theorem hw_930 : (Cond.instanceMethod ⟨"TokenScannerModel", "next", "()I"⟩) ∈ mg_G := mg_t4 210 rfl rfl
theorem hw_931 : (Cond.selects "TokenScannerModel" ⟨"TokenScannerModel", "next", "()I"⟩ ⟨"TokenScannerModel", "next", "()I"⟩) ∈ mg_G := mg_t4 211 rfl rfl
theorem hw_932 : (Cond.code ⟨"TokenScannerModel", "next", "()I"⟩ prog_9_method_33_code 1 (some .int)) ∈ mg_G := mg_t4 212 rfl rfl
theorem hw_933 : (Cond.methodLink "TokenScannerLaw" 73 ⟨"TokenScannerModel", "pattern", "()I"⟩) ∈ mg_G := mg_t4 213 rfl rfl
theorem hw_934 : (Cond.instanceMethod ⟨"TokenScannerModel", "pattern", "()I"⟩) ∈ mg_G := mg_t4 214 rfl rfl
theorem hw_935 : (Cond.selects "TokenScannerModel" ⟨"TokenScannerModel", "pattern", "()I"⟩ ⟨"TokenScannerModel", "pattern", "()I"⟩) ∈ mg_G := mg_t4 215 rfl rfl
theorem hw_936 : (Cond.code ⟨"TokenScannerModel", "pattern", "()I"⟩ prog_9_method_34_code 1 (some .int)) ∈ mg_G := mg_t4 216 rfl rfl
theorem hw_937 : (Cond.methodLink "TokenScannerModel" 341 ⟨"TokenScannerModel", "readPattern", "()V"⟩) ∈ mg_G := mg_t4 217 rfl rfl
theorem hw_939 : (Cond.instanceMethod ⟨"TokenScannerModel", "readPattern", "()V"⟩) ∈ mg_G := mg_t4 219 rfl rfl
theorem hw_940 : (Cond.code ⟨"TokenScannerModel", "readPattern", "()V"⟩ prog_9_method_29_code 3 none) ∈ mg_G := mg_t4 220 rfl rfl
theorem hw_941 : (Cond.methodLink "TokenScannerLaw" 77 ⟨"TokenScannerModel", "end", "()V"⟩) ∈ mg_G := mg_t4 221 rfl rfl
theorem hw_942 : (Cond.instanceMethod ⟨"TokenScannerModel", "end", "()V"⟩) ∈ mg_G := mg_t4 222 rfl rfl
theorem hw_943 : (Cond.selects "TokenScannerModel" ⟨"TokenScannerModel", "end", "()V"⟩ ⟨"TokenScannerModel", "end", "()V"⟩) ∈ mg_G := mg_t4 223 rfl rfl
theorem hw_944 : (Cond.code ⟨"TokenScannerModel", "end", "()V"⟩ prog_9_method_35_code 1 none) ∈ mg_G := mg_t4 224 rfl rfl
theorem hw_945 : (Cond.methodLink "TokenScannerLaw" 81 ⟨"TokenScannerModel", "place", "()I"⟩) ∈ mg_G := mg_t4 225 rfl rfl
theorem hw_946 : (Cond.instanceMethod ⟨"TokenScannerModel", "place", "()I"⟩) ∈ mg_G := mg_t4 226 rfl rfl
theorem hw_947 : (Cond.selects "TokenScannerModel" ⟨"TokenScannerModel", "place", "()I"⟩ ⟨"TokenScannerModel", "place", "()I"⟩) ∈ mg_G := mg_t4 227 rfl rfl
theorem hw_948 : (Cond.code ⟨"TokenScannerModel", "place", "()I"⟩ prog_9_method_36_code 1 (some .int)) ∈ mg_G := mg_t4 228 rfl rfl
theorem hw_949 : (Cond.methodLink "TokenScannerLaw" 85 ⟨"TokenScannerModel", "token", "(I)I"⟩) ∈ mg_G := mg_t4 229 rfl rfl
theorem hw_950 : (Cond.instanceMethod ⟨"TokenScannerModel", "token", "(I)I"⟩) ∈ mg_G := mg_t4 230 rfl rfl
theorem hw_951 : (Cond.selects "TokenScannerModel" ⟨"TokenScannerModel", "token", "(I)I"⟩ ⟨"TokenScannerModel", "token", "(I)I"⟩) ∈ mg_G := mg_t4 231 rfl rfl
theorem hw_952 : (Cond.code ⟨"TokenScannerModel", "token", "(I)I"⟩ prog_9_method_37_code 3 (some .int)) ∈ mg_G := mg_t4 232 rfl rfl
theorem hw_954 : (Cond.methodLink "TokenScannerLaw" 88 ⟨"TokenScannerModel", "unit", "(I)I"⟩) ∈ mg_G := mg_t4 234 rfl rfl
theorem hw_955 : (Cond.instanceMethod ⟨"TokenScannerModel", "unit", "(I)I"⟩) ∈ mg_G := mg_t4 235 rfl rfl
theorem hw_956 : (Cond.selects "TokenScannerModel" ⟨"TokenScannerModel", "unit", "(I)I"⟩ ⟨"TokenScannerModel", "unit", "(I)I"⟩) ∈ mg_G := mg_t4 236 rfl rfl
theorem hw_957 : (Cond.code ⟨"TokenScannerModel", "unit", "(I)I"⟩ prog_9_method_38_code 2 (some .int)) ∈ mg_G := mg_t4 237 rfl rfl
theorem hw_958 : (Cond.methodLink "TokenScannerLaw" 91 ⟨"TokenScannerModel", "name", "()I"⟩) ∈ mg_G := mg_t4 238 rfl rfl
theorem hw_959 : (Cond.instanceMethod ⟨"TokenScannerModel", "name", "()I"⟩) ∈ mg_G := mg_t4 239 rfl rfl
theorem hw_960 : (Cond.selects "TokenScannerModel" ⟨"TokenScannerModel", "name", "()I"⟩ ⟨"TokenScannerModel", "name", "()I"⟩) ∈ mg_G := mg_t5 0 rfl rfl
theorem hw_961 : (Cond.code ⟨"TokenScannerModel", "name", "()I"⟩ prog_9_method_40_code 3 (some .int)) ∈ mg_G := mg_t5 1 rfl rfl
theorem hw_962 : (Cond.methodLink "TokenScannerModel" 346 ⟨"TokenScannerModel", "isName", "(I)Z"⟩) ∈ mg_G := mg_t5 2 rfl rfl
theorem hw_964 : (Cond.instanceMethod ⟨"TokenScannerModel", "isName", "(I)Z"⟩) ∈ mg_G := mg_t5 4 rfl rfl
theorem hw_965 : (Cond.code ⟨"TokenScannerModel", "isName", "(I)Z"⟩ prog_9_method_39_code 5 (some .boolean)) ∈ mg_G := mg_t5 5 rfl rfl
theorem hw_966 : (Cond.methodLink "TokenScannerLaw" 94 ⟨"TokenScannerModel", "literal", "()I"⟩) ∈ mg_G := mg_t5 6 rfl rfl
theorem hw_967 : (Cond.instanceMethod ⟨"TokenScannerModel", "literal", "()I"⟩) ∈ mg_G := mg_t5 7 rfl rfl
theorem hw_968 : (Cond.selects "TokenScannerModel" ⟨"TokenScannerModel", "literal", "()I"⟩ ⟨"TokenScannerModel", "literal", "()I"⟩) ∈ mg_G := mg_t5 8 rfl rfl
theorem hw_969 : (Cond.code ⟨"TokenScannerModel", "literal", "()I"⟩ prog_9_method_41_code 4 (some .int)) ∈ mg_G := mg_t5 9 rfl rfl
theorem hw_970 : (Cond.methodLink "TokenScannerLaw" 98 ⟨"TokenScannerModel", "text", "(ZII)I"⟩) ∈ mg_G := mg_t5 10 rfl rfl
theorem hw_971 : (Cond.instanceMethod ⟨"TokenScannerModel", "text", "(ZII)I"⟩) ∈ mg_G := mg_t5 11 rfl rfl
theorem hw_972 : (Cond.selects "TokenScannerModel" ⟨"TokenScannerModel", "text", "(ZII)I"⟩ ⟨"TokenScannerModel", "text", "(ZII)I"⟩) ∈ mg_G := mg_t5 12 rfl rfl
theorem hw_973 : (Cond.code ⟨"TokenScannerModel", "text", "(ZII)I"⟩ prog_9_method_42_code 7 (some .int)) ∈ mg_G := mg_t5 13 rfl rfl
theorem hw_974 : (Cond.constantLong "TokenScannerLaw" 53 4294967295) ∈ mg_G := mg_t5 14 rfl rfl
theorem hw_975 : (Cond.arrayClass .long) ∈ mg_G := mg_t5 15 rfl rfl
theorem hw_977 : (Cond.fieldLink "java/lang/String" 9 "java/lang/String" "value" "[B") ∈ mg_G := mg_t5 17 rfl rfl
theorem hw_978 : (Cond.fieldLink "java/lang/String" 15 "java/lang/String" "coder" "B") ∈ mg_G := mg_t5 18 rfl rfl
theorem hs_1 : Cond.selects "TokenScanner$Reader" ⟨"TokenScanner$Reader", "skipToToken", "()Z"⟩ ⟨"TokenScanner$Reader", "skipToToken", "()Z"⟩ ∈ mg_G := mg_sel 1 rfl rfl
theorem hs_2 : Cond.selects "TokenScanner$Reader" ⟨"TokenScanner$Reader", "skipLineComment", "()V"⟩ ⟨"TokenScanner$Reader", "skipLineComment", "()V"⟩ ∈ mg_G := mg_sel 2 rfl rfl
theorem hs_3 : Cond.selects "TokenScanner$Reader" ⟨"TokenScanner$Reader", "skipBlockComment", "()Z"⟩ ⟨"TokenScanner$Reader", "skipBlockComment", "()Z"⟩ ∈ mg_G := mg_sel 3 rfl rfl
theorem hs_4 : Cond.selects "TokenScanner$Reader" ⟨"TokenScanner$Reader", "refuse", "(I)Z"⟩ ⟨"TokenScanner$Reader", "refuse", "(I)Z"⟩ ∈ mg_G := mg_sel 4 rfl rfl
theorem hs_5 : Cond.selects "TokenScanner$Reader" ⟨"TokenScanner$Reader", "readName", "()Z"⟩ ⟨"TokenScanner$Reader", "readName", "()Z"⟩ ∈ mg_G := mg_sel 5 rfl rfl
theorem hs_6 : Cond.selects "TokenScanner$Reader" ⟨"TokenScanner$Reader", "readNameEscape", "()Z"⟩ ⟨"TokenScanner$Reader", "readNameEscape", "()Z"⟩ ∈ mg_G := mg_sel 6 rfl rfl
theorem hs_7 : Cond.selects "TokenScanner$Reader" ⟨"TokenScanner$Reader", "readHex", "(I)I"⟩ ⟨"TokenScanner$Reader", "readHex", "(I)I"⟩ ∈ mg_G := mg_sel 7 rfl rfl
theorem hs_8 : Cond.selects "TokenScanner$Spellings" ⟨"TokenScanner$Spellings", "isOf", "(ILTokenScanner$Token;)Z"⟩ ⟨"TokenScanner$Spellings", "isOf", "(ILTokenScanner$Token;)Z"⟩ ∈ mg_G := mg_sel 8 rfl rfl
theorem hs_9 : Cond.selects "TokenScanner$Reader" ⟨"TokenScanner$Reader", "readNumber", "()Z"⟩ ⟨"TokenScanner$Reader", "readNumber", "()Z"⟩ ∈ mg_G := mg_sel 9 rfl rfl
theorem hs_10 : Cond.selects "TokenScanner$Reader" ⟨"TokenScanner$Reader", "skipHexNumber", "()Z"⟩ ⟨"TokenScanner$Reader", "skipHexNumber", "()Z"⟩ ∈ mg_G := mg_sel 10 rfl rfl
theorem hs_11 : Cond.selects "TokenScanner$Reader" ⟨"TokenScanner$Reader", "skipDecimalNumber", "()Z"⟩ ⟨"TokenScanner$Reader", "skipDecimalNumber", "()Z"⟩ ∈ mg_G := mg_sel 11 rfl rfl
theorem hs_12 : Cond.selects "TokenScanner$Reader" ⟨"TokenScanner$Reader", "skipDigits", "()V"⟩ ⟨"TokenScanner$Reader", "skipDigits", "()V"⟩ ∈ mg_G := mg_sel 12 rfl rfl
theorem hs_13 : Cond.selects "TokenScanner$Reader" ⟨"TokenScanner$Reader", "skipExponent", "()Z"⟩ ⟨"TokenScanner$Reader", "skipExponent", "()Z"⟩ ∈ mg_G := mg_sel 13 rfl rfl
theorem hs_14 : Cond.selects "TokenScanner$Reader" ⟨"TokenScanner$Reader", "takeBytesAsUnits", "()V"⟩ ⟨"TokenScanner$Reader", "takeBytesAsUnits", "()V"⟩ ∈ mg_G := mg_sel 14 rfl rfl
theorem hs_15 : Cond.selects "TokenScanner$Reader" ⟨"TokenScanner$Reader", "readText", "(I)Z"⟩ ⟨"TokenScanner$Reader", "readText", "(I)Z"⟩ ∈ mg_G := mg_sel 15 rfl rfl
theorem hs_16 : Cond.selects "TokenScanner$Reader" ⟨"TokenScanner$Reader", "readTextEscape", "()Z"⟩ ⟨"TokenScanner$Reader", "readTextEscape", "()Z"⟩ ∈ mg_G := mg_sel 16 rfl rfl
theorem hs_17 : Cond.selects "TokenScanner$Reader" ⟨"TokenScanner$Reader", "readZeroEscape", "()Z"⟩ ⟨"TokenScanner$Reader", "readZeroEscape", "()Z"⟩ ∈ mg_G := mg_sel 17 rfl rfl
theorem hs_18 : Cond.selects "TokenScanner$Reader" ⟨"TokenScanner$Reader", "skipSecondOfLineEnd", "(I)V"⟩ ⟨"TokenScanner$Reader", "skipSecondOfLineEnd", "(I)V"⟩ ∈ mg_G := mg_sel 18 rfl rfl
theorem hs_19 : Cond.selects "TokenScanner$Reader" ⟨"TokenScanner$Reader", "readSign", "()Z"⟩ ⟨"TokenScanner$Reader", "readSign", "()Z"⟩ ∈ mg_G := mg_sel 19 rfl rfl
theorem hs_20 : Cond.selects "TokenScanner$Spellings" ⟨"TokenScanner$Spellings", "standsAt", "(ILTokenScanner$Source;I)Z"⟩ ⟨"TokenScanner$Spellings", "standsAt", "(ILTokenScanner$Source;I)Z"⟩ ∈ mg_G := mg_sel 20 rfl rfl
theorem hs_21 : Cond.selects "TokenScanner" ⟨"TokenScanner", "kindUnlessRefused", "(Z)I"⟩ ⟨"TokenScanner", "kindUnlessRefused", "(Z)I"⟩ ∈ mg_G := mg_sel 21 rfl rfl
theorem hs_22 : Cond.selects "TokenScanner" ⟨"TokenScanner", "useUp", "()V"⟩ ⟨"TokenScanner", "useUp", "()V"⟩ ∈ mg_G := mg_sel 22 rfl rfl
theorem hs_23 : Cond.selects "TokenScanner$Reader" ⟨"TokenScanner$Reader", "skipPatternBody", "()Z"⟩ ⟨"TokenScanner$Reader", "skipPatternBody", "()Z"⟩ ∈ mg_G := mg_sel 23 rfl rfl
theorem hs_24 : Cond.selects "TokenScanner$Shelf" ⟨"TokenScanner$Shelf", "startOf", "(I)I"⟩ ⟨"TokenScanner$Shelf", "startOf", "(I)I"⟩ ∈ mg_G := mg_sel 24 rfl rfl
theorem hs_25 : Cond.selects "TokenScanner$Shelf" ⟨"TokenScanner$Shelf", "startsWith", "(I[II)Z"⟩ ⟨"TokenScanner$Shelf", "startsWith", "(I[II)Z"⟩ ∈ mg_G := mg_sel 25 rfl rfl
theorem hs_26 : Cond.selects "TokenScannerModel" ⟨"TokenScannerModel", "throwing", "(ZZ)Z"⟩ ⟨"TokenScannerModel", "throwing", "(ZZ)Z"⟩ ∈ mg_G := mg_sel 26 rfl rfl
theorem hs_27 : Cond.selects "TokenScannerModel" ⟨"TokenScannerModel", "readToken", "()I"⟩ ⟨"TokenScannerModel", "readToken", "()I"⟩ ∈ mg_G := mg_sel 27 rfl rfl
theorem hs_28 : Cond.selects "TokenScannerModel" ⟨"TokenScannerModel", "skip", "()V"⟩ ⟨"TokenScannerModel", "skip", "()V"⟩ ∈ mg_G := mg_sel 28 rfl rfl
theorem hs_29 : Cond.selects "TokenScannerModel" ⟨"TokenScannerModel", "see", "(I)I"⟩ ⟨"TokenScannerModel", "see", "(I)I"⟩ ∈ mg_G := mg_sel 29 rfl rfl
theorem hs_30 : Cond.selects "TokenScannerModel" ⟨"TokenScannerModel", "behindComment", "(I)I"⟩ ⟨"TokenScannerModel", "behindComment", "(I)I"⟩ ∈ mg_G := mg_sel 30 rfl rfl
theorem hs_31 : Cond.selects "TokenScannerModel" ⟨"TokenScannerModel", "fail", "(I)V"⟩ ⟨"TokenScannerModel", "fail", "(I)V"⟩ ∈ mg_G := mg_sel 31 rfl rfl
theorem hs_32 : Cond.selects "TokenScannerModel" ⟨"TokenScannerModel", "done", "()I"⟩ ⟨"TokenScannerModel", "done", "()I"⟩ ∈ mg_G := mg_sel 32 rfl rfl
theorem hs_33 : Cond.selects "TokenScannerModel" ⟨"TokenScannerModel", "readName", "()V"⟩ ⟨"TokenScannerModel", "readName", "()V"⟩ ∈ mg_G := mg_sel 33 rfl rfl
theorem hs_34 : Cond.selects "TokenScannerModel" ⟨"TokenScannerModel", "digits", "(II)I"⟩ ⟨"TokenScannerModel", "digits", "(II)I"⟩ ∈ mg_G := mg_sel 34 rfl rfl
theorem hs_35 : Cond.selects "TokenScannerModel" ⟨"TokenScannerModel", "add", "(I)V"⟩ ⟨"TokenScannerModel", "add", "(I)V"⟩ ∈ mg_G := mg_sel 35 rfl rfl
theorem hs_36 : Cond.selects "TokenScannerModel" ⟨"TokenScannerModel", "wordOf", "()I"⟩ ⟨"TokenScannerModel", "wordOf", "()I"⟩ ∈ mg_G := mg_sel 36 rfl rfl
theorem hs_37 : Cond.selects "TokenScannerModel" ⟨"TokenScannerModel", "isText", "(Ljava/lang/String;)Z"⟩ ⟨"TokenScannerModel", "isText", "(Ljava/lang/String;)Z"⟩ ∈ mg_G := mg_sel 37 rfl rfl
theorem hs_38 : Cond.selects "TokenScannerModel" ⟨"TokenScannerModel", "readNumber", "()V"⟩ ⟨"TokenScannerModel", "readNumber", "()V"⟩ ∈ mg_G := mg_sel 38 rfl rfl
theorem hs_39 : Cond.selects "TokenScannerModel" ⟨"TokenScannerModel", "readDecimal", "()V"⟩ ⟨"TokenScannerModel", "readDecimal", "()V"⟩ ∈ mg_G := mg_sel 39 rfl rfl
theorem hs_40 : Cond.selects "TokenScannerModel" ⟨"TokenScannerModel", "readDigits", "()V"⟩ ⟨"TokenScannerModel", "readDigits", "()V"⟩ ∈ mg_G := mg_sel 40 rfl rfl
theorem hs_41 : Cond.selects "TokenScannerModel" ⟨"TokenScannerModel", "readText", "()V"⟩ ⟨"TokenScannerModel", "readText", "()V"⟩ ∈ mg_G := mg_sel 41 rfl rfl
theorem hs_42 : Cond.selects "TokenScannerModel" ⟨"TokenScannerModel", "readEscape", "()V"⟩ ⟨"TokenScannerModel", "readEscape", "()V"⟩ ∈ mg_G := mg_sel 42 rfl rfl
theorem hs_43 : Cond.selects "TokenScannerModel" ⟨"TokenScannerModel", "readSign", "()V"⟩ ⟨"TokenScannerModel", "readSign", "()V"⟩ ∈ mg_G := mg_sel 43 rfl rfl
theorem hs_44 : Cond.selects "TokenScannerModel" ⟨"TokenScannerModel", "lengthOf", "(I)I"⟩ ⟨"TokenScannerModel", "lengthOf", "(I)I"⟩ ∈ mg_G := mg_sel 44 rfl rfl
theorem hs_45 : Cond.selects "TokenScannerModel" ⟨"TokenScannerModel", "readPattern", "()V"⟩ ⟨"TokenScannerModel", "readPattern", "()V"⟩ ∈ mg_G := mg_sel 45 rfl rfl
theorem hs_46 : Cond.selects "TokenScannerModel" ⟨"TokenScannerModel", "isName", "(I)Z"⟩ ⟨"TokenScannerModel", "isName", "(I)Z"⟩ ∈ mg_G := mg_sel 46 rfl rfl
end
section
def mf_T0 : u_T := fun k => match k with
  | 0 => ("TokenScanner", "source", "LTokenScanner$Source;", true)
  | 1 => ("TokenScanner", "current", "LTokenScanner$Token;", true)
  | 2 => ("TokenScanner", "reader", "LTokenScanner$Reader;", true)
  | 3 => ("TokenScanner", "names", "LTokenScanner$Shelf;", true)
  | 4 => ("TokenScanner", "literals", "LTokenScanner$Shelf;", true)
  | 5 => ("TokenScanner", "hasToken", "Z", false)
  | _ => ("TokenScanner", "refusedAt", "I", false)
def mf_y0 : Nat → FieldType := fun k => match k with
  | 0 => .object "TokenScanner$Source"
  | 1 => .object "TokenScanner$Token"
  | 2 => .object "TokenScanner$Reader"
  | 3 => .object "TokenScanner$Shelf"
  | 4 => .object "TokenScanner$Shelf"
  | 5 => .boolean
  | _ => .int
theorem mf_n0 : ∀ a, a < 7 → ∀ b, b < 7 → a ≠ b → (mf_T0 a).2.1 ≠ (mf_T0 b).2.1 := by decide +kernel
theorem mf_o0 : ∀ k, k < 7 → parseFieldDescriptor (mf_T0 k).2.2.1 = some (mf_y0 k) := by decide +kernel
def mf_T1 : u_T := fun k => match k with
  | 0 => ("TokenScanner$Source", "bytes", "[I", true)
  | _ => ("TokenScanner$Source", "count", "I", false)
def mf_y1 : Nat → FieldType := fun k => match k with
  | 0 => .array .int
  | _ => .int
theorem mf_n1 : ∀ a, a < 2 → ∀ b, b < 2 → a ≠ b → (mf_T1 a).2.1 ≠ (mf_T1 b).2.1 := by decide +kernel
theorem mf_o1 : ∀ k, k < 2 → parseFieldDescriptor (mf_T1 k).2.2.1 = some (mf_y1 k) := by decide +kernel
def mf_T2 : u_T := fun k => match k with
  | 0 => ("TokenScanner$Token", "kind", "I", false)
  | 1 => ("TokenScanner$Token", "first", "I", false)
  | 2 => ("TokenScanner$Token", "behind", "I", false)
  | 3 => ("TokenScanner$Token", "lineEndsBefore", "Z", false)
  | 4 => ("TokenScanner$Token", "word", "I", false)
  | 5 => ("TokenScanner$Token", "escaped", "Z", false)
  | 6 => ("TokenScanner$Token", "sign", "I", false)
  | 7 => ("TokenScanner$Token", "units", "[I", true)
  | _ => ("TokenScanner$Token", "size", "I", false)
def mf_y2 : Nat → FieldType := fun k => match k with
  | 0 => .int
  | 1 => .int
  | 2 => .int
  | 3 => .boolean
  | 4 => .int
  | 5 => .boolean
  | 6 => .int
  | 7 => .array .int
  | _ => .int
theorem mf_n2 : ∀ a, a < 9 → ∀ b, b < 9 → a ≠ b → (mf_T2 a).2.1 ≠ (mf_T2 b).2.1 := by decide +kernel
theorem mf_o2 : ∀ k, k < 9 → parseFieldDescriptor (mf_T2 k).2.2.1 = some (mf_y2 k) := by decide +kernel
def mf_T3 : u_T := fun k => match k with
  | 0 => ("TokenScanner$Reader", "source", "LTokenScanner$Source;", true)
  | 1 => ("TokenScanner$Reader", "token", "LTokenScanner$Token;", true)
  | 2 => ("TokenScanner$Reader", "words", "LTokenScanner$Spellings;", true)
  | 3 => ("TokenScanner$Reader", "signs", "LTokenScanner$Spellings;", true)
  | 4 => ("TokenScanner$Reader", "at", "I", false)
  | _ => ("TokenScanner$Reader", "refusedAt", "I", false)
def mf_y3 : Nat → FieldType := fun k => match k with
  | 0 => .object "TokenScanner$Source"
  | 1 => .object "TokenScanner$Token"
  | 2 => .object "TokenScanner$Spellings"
  | 3 => .object "TokenScanner$Spellings"
  | 4 => .int
  | _ => .int
theorem mf_n3 : ∀ a, a < 6 → ∀ b, b < 6 → a ≠ b → (mf_T3 a).2.1 ≠ (mf_T3 b).2.1 := by decide +kernel
theorem mf_o3 : ∀ k, k < 6 → parseFieldDescriptor (mf_T3 k).2.2.1 = some (mf_y3 k) := by decide +kernel
def mf_T4 : u_T := fun k => match k with
  | 0 => ("TokenScanner$Spellings", "list", "Ljava/lang/String;", true)
  | _ => ("TokenScanner$Spellings", "starts", "[I", true)
def mf_y4 : Nat → FieldType := fun k => match k with
  | 0 => .object "java/lang/String"
  | _ => .array .int
theorem mf_n4 : ∀ a, a < 2 → ∀ b, b < 2 → a ≠ b → (mf_T4 a).2.1 ≠ (mf_T4 b).2.1 := by decide +kernel
theorem mf_o4 : ∀ k, k < 2 → parseFieldDescriptor (mf_T4 k).2.2.1 = some (mf_y4 k) := by decide +kernel
def mf_T5 : u_T := fun k => match k with
  | 0 => ("TokenScanner$Shelf", "units", "[I", true)
  | 1 => ("TokenScanner$Shelf", "ends", "[I", true)
  | _ => ("TokenScanner$Shelf", "count", "I", false)
def mf_y5 : Nat → FieldType := fun k => match k with
  | 0 => .array .int
  | 1 => .array .int
  | _ => .int
theorem mf_n5 : ∀ a, a < 3 → ∀ b, b < 3 → a ≠ b → (mf_T5 a).2.1 ≠ (mf_T5 b).2.1 := by decide +kernel
theorem mf_o5 : ∀ k, k < 3 → parseFieldDescriptor (mf_T5 k).2.2.1 = some (mf_y5 k) := by decide +kernel
def mf_T6 : u_T := fun k => match k with
  | 0 => ("TokenScannerModel", "thrown", "I", false)
  | 1 => ("TokenScannerModel", "text", "[I", true)
  | 2 => ("TokenScannerModel", "size", "I", false)
  | 3 => ("TokenScannerModel", "there", "Z", false)
  | 4 => ("TokenScannerModel", "place", "I", false)
  | 5 => ("TokenScannerModel", "bad", "I", false)
  | 6 => ("TokenScannerModel", "at", "I", false)
  | 7 => ("TokenScannerModel", "kind", "I", false)
  | 8 => ("TokenScannerModel", "from", "I", false)
  | 9 => ("TokenScannerModel", "line", "I", false)
  | 10 => ("TokenScannerModel", "word", "I", false)
  | 11 => ("TokenScannerModel", "escaped", "I", false)
  | 12 => ("TokenScannerModel", "sign", "I", false)
  | 13 => ("TokenScannerModel", "units", "[I", true)
  | 14 => ("TokenScannerModel", "many", "I", false)
  | 15 => ("TokenScannerModel", "names", "I", false)
  | 16 => ("TokenScannerModel", "nameEnd", "[I", true)
  | 17 => ("TokenScannerModel", "nameUnits", "[I", true)
  | 18 => ("TokenScannerModel", "literals", "I", false)
  | 19 => ("TokenScannerModel", "literalEnd", "[I", true)
  | _ => ("TokenScannerModel", "literalUnits", "[I", true)
def mf_y6 : Nat → FieldType := fun k => match k with
  | 0 => .int
  | 1 => .array .int
  | 2 => .int
  | 3 => .boolean
  | 4 => .int
  | 5 => .int
  | 6 => .int
  | 7 => .int
  | 8 => .int
  | 9 => .int
  | 10 => .int
  | 11 => .int
  | 12 => .int
  | 13 => .array .int
  | 14 => .int
  | 15 => .int
  | 16 => .array .int
  | 17 => .array .int
  | 18 => .int
  | 19 => .array .int
  | _ => .array .int
theorem mf_n6 : ∀ a, a < 21 → ∀ b, b < 21 → a ≠ b → (mf_T6 a).2.1 ≠ (mf_T6 b).2.1 := by decide +kernel
theorem mf_o6 : ∀ k, k < 21 → parseFieldDescriptor (mf_T6 k).2.2.1 = some (mf_y6 k) := by decide +kernel
def mf_cl : List vw_C := [("TokenScanner", mf_T0, 7), ("TokenScanner$Source", mf_T1, 2), ("TokenScanner$Token", mf_T2, 9), ("TokenScanner$Reader", mf_T3, 6), ("TokenScanner$Spellings", mf_T4, 2), ("TokenScanner$Shelf", mf_T5, 3), ("TokenScannerModel", mf_T6, 21)]
theorem mf_i0 : ∀ w ∈ u_ws "TokenScanner" mf_T0 7, w ∈ mg_G := by
  intro w hw
  simp only [u_ws, List.range, List.range.loop, List.map_cons, List.map_nil, List.mem_cons, List.not_mem_nil, or_false] at hw
  rcases hw with rfl | rfl | rfl | rfl | rfl | rfl | rfl
  · exact hw_229
  · exact hw_231
  · exact hw_233
  · exact hw_235
  · exact hw_237
  · exact hw_239
  · exact hw_241
def mf_d0 : List Value := [.null, .null, .null, .null, .null, .int 0, .int 0]
theorem mf_v0 : ∀ (as : List Nat) (sd : Nat → Option Nat) (j : Nat), j < 7 → defaultValue (mf_y0 j) = vp_V (mf_d0.map (mv_v as sd)) j := by
  intro as sd j hj
  rcases (show j = 0 ∨ j = 1 ∨ j = 2 ∨ j = 3 ∨ j = 4 ∨ j = 5 ∨ j = 6 by omega) with rfl | rfl | rfl | rfl | rfl | rfl | rfl <;> rfl
theorem mf_i1 : ∀ w ∈ u_ws "TokenScanner$Source" mf_T1 2, w ∈ mg_G := by
  intro w hw
  simp only [u_ws, List.range, List.range.loop, List.map_cons, List.map_nil, List.mem_cons, List.not_mem_nil, or_false] at hw
  rcases hw with rfl | rfl
  · exact hw_38
  · exact hw_40
def mf_d1 : List Value := [.null, .int 0]
theorem mf_v1 : ∀ (as : List Nat) (sd : Nat → Option Nat) (j : Nat), j < 2 → defaultValue (mf_y1 j) = vp_V (mf_d1.map (mv_v as sd)) j := by
  intro as sd j hj
  rcases (show j = 0 ∨ j = 1 by omega) with rfl | rfl <;> rfl
theorem mf_i2 : ∀ w ∈ u_ws "TokenScanner$Token" mf_T2 9, w ∈ mg_G := by
  intro w hw
  simp only [u_ws, List.range, List.range.loop, List.map_cons, List.map_nil, List.mem_cons, List.not_mem_nil, or_false] at hw
  rcases hw with rfl | rfl | rfl | rfl | rfl | rfl | rfl | rfl | rfl
  · exact hw_78
  · exact hw_80
  · exact hw_82
  · exact hw_84
  · exact hw_86
  · exact hw_88
  · exact hw_90
  · exact hw_92
  · exact hw_94
def mf_d2 : List Value := [.int 0, .int 0, .int 0, .int 0, .int 0, .int 0, .int 0, .null, .int 0]
theorem mf_v2 : ∀ (as : List Nat) (sd : Nat → Option Nat) (j : Nat), j < 9 → defaultValue (mf_y2 j) = vp_V (mf_d2.map (mv_v as sd)) j := by
  intro as sd j hj
  rcases (show j = 0 ∨ j = 1 ∨ j = 2 ∨ j = 3 ∨ j = 4 ∨ j = 5 ∨ j = 6 ∨ j = 7 ∨ j = 8 by omega) with rfl | rfl | rfl | rfl | rfl | rfl | rfl | rfl | rfl <;> rfl
theorem mf_i3 : ∀ w ∈ u_ws "TokenScanner$Reader" mf_T3 6, w ∈ mg_G := by
  intro w hw
  simp only [u_ws, List.range, List.range.loop, List.map_cons, List.map_nil, List.mem_cons, List.not_mem_nil, or_false] at hw
  rcases hw with rfl | rfl | rfl | rfl | rfl | rfl
  · exact hw_190
  · exact hw_192
  · exact hw_194
  · exact hw_196
  · exact hw_198
  · exact hw_200
def mf_d3 : List Value := [.null, .null, .null, .null, .int 0, .int 0]
theorem mf_v3 : ∀ (as : List Nat) (sd : Nat → Option Nat) (j : Nat), j < 6 → defaultValue (mf_y3 j) = vp_V (mf_d3.map (mv_v as sd)) j := by
  intro as sd j hj
  rcases (show j = 0 ∨ j = 1 ∨ j = 2 ∨ j = 3 ∨ j = 4 ∨ j = 5 by omega) with rfl | rfl | rfl | rfl | rfl | rfl <;> rfl
theorem mf_i4 : ∀ w ∈ u_ws "TokenScanner$Spellings" mf_T4 2, w ∈ mg_G := by
  intro w hw
  simp only [u_ws, List.range, List.range.loop, List.map_cons, List.map_nil, List.mem_cons, List.not_mem_nil, or_false] at hw
  rcases hw with rfl | rfl
  · exact hw_176
  · exact hw_178
def mf_d4 : List Value := [.null, .null]
theorem mf_v4 : ∀ (as : List Nat) (sd : Nat → Option Nat) (j : Nat), j < 2 → defaultValue (mf_y4 j) = vp_V (mf_d4.map (mv_v as sd)) j := by
  intro as sd j hj
  rcases (show j = 0 ∨ j = 1 by omega) with rfl | rfl <;> rfl
theorem mf_i5 : ∀ w ∈ u_ws "TokenScanner$Shelf" mf_T5 3, w ∈ mg_G := by
  intro w hw
  simp only [u_ws, List.range, List.range.loop, List.map_cons, List.map_nil, List.mem_cons, List.not_mem_nil, or_false] at hw
  rcases hw with rfl | rfl | rfl
  · exact hw_215
  · exact hw_217
  · exact hw_219
def mf_d5 : List Value := [.null, .null, .int 0]
theorem mf_v5 : ∀ (as : List Nat) (sd : Nat → Option Nat) (j : Nat), j < 3 → defaultValue (mf_y5 j) = vp_V (mf_d5.map (mv_v as sd)) j := by
  intro as sd j hj
  rcases (show j = 0 ∨ j = 1 ∨ j = 2 by omega) with rfl | rfl | rfl <;> rfl
theorem mf_i6 : ∀ w ∈ u_ws "TokenScannerModel" mf_T6 21, w ∈ mg_G := by
  intro w hw
  simp only [u_ws, List.range, List.range.loop, List.map_cons, List.map_nil, List.mem_cons, List.not_mem_nil, or_false] at hw
  rcases hw with rfl | rfl | rfl | rfl | rfl | rfl | rfl | rfl | rfl | rfl | rfl | rfl | rfl | rfl | rfl | rfl | rfl | rfl | rfl | rfl | rfl
  · exact hw_688
  · exact hw_690
  · exact hw_692
  · exact hw_694
  · exact hw_696
  · exact hw_698
  · exact hw_700
  · exact hw_702
  · exact hw_704
  · exact hw_706
  · exact hw_708
  · exact hw_710
  · exact hw_712
  · exact hw_714
  · exact hw_716
  · exact hw_718
  · exact hw_720
  · exact hw_722
  · exact hw_724
  · exact hw_726
  · exact hw_728
def mf_d6 : List Value := [.int 0, .null, .int 0, .int 0, .int 0, .int 0, .int 0, .int 0, .int 0, .int 0, .int 0, .int 0, .int 0, .null, .int 0, .int 0, .null, .null, .int 0, .null, .null]
theorem mf_v6 : ∀ (as : List Nat) (sd : Nat → Option Nat) (j : Nat), j < 21 → defaultValue (mf_y6 j) = vp_V (mf_d6.map (mv_v as sd)) j := by
  intro as sd j hj
  rcases (show j = 0 ∨ j = 1 ∨ j = 2 ∨ j = 3 ∨ j = 4 ∨ j = 5 ∨ j = 6 ∨ j = 7 ∨ j = 8 ∨ j = 9 ∨ j = 10 ∨ j = 11 ∨ j = 12 ∨ j = 13 ∨ j = 14 ∨ j = 15 ∨ j = 16 ∨ j = 17 ∨ j = 18 ∨ j = 19 ∨ j = 20 by omega) with rfl | rfl | rfl | rfl | rfl | rfl | rfl | rfl | rfl | rfl | rfl | rfl | rfl | rfl | rfl | rfl | rfl | rfl | rfl | rfl | rfl <;> rfl
def mM_0 : mv_Y := (⟨"TokenScanner$Source", "<init>", "()V"⟩, prog_4_method_1_code, 1, none, [], 1, 20)
def mM_1 : mv_Y := (⟨"TokenScanner$Token", "<init>", "()V"⟩, prog_6_method_1_code, 1, none, [], 1, 20)
def mM_2 : mv_Y := (⟨"java/lang/String", "coder", "()B"⟩, prog_17_method_152_code, 1, some .byte, [], 0, 0)
def mM_3 : mv_Y := (⟨"java/lang/String", "length", "()I"⟩, prog_17_method_54_code, 1, some .int, [], 1, 20)
def mM_4 : mv_Y := (⟨"java/lang/String", "isLatin1", "()Z"⟩, prog_17_method_154_code, 1, some .boolean, [], 0, 0)
def mM_5 : mv_Y := (⟨"jdk/internal/util/Preconditions", "checkIndex", "(IILjava/util/function/BiFunction;)I"⟩, prog_23_method_11_code, 3, some .int, [], 0, 0)
def mM_6 : mv_Y := (⟨"java/lang/String", "checkIndex", "(II)V"⟩, prog_17_method_155_code, 2, none, [], 1, 22)
def mM_7 : mv_Y := (⟨"java/lang/StringLatin1", "charAt", "([BI)C"⟩, prog_18_method_2_code, 2, some .char, [], 2, 43)
def mM_8 : mv_Y := (⟨"java/lang/String", "charAt", "(I)C"⟩, prog_17_method_56_code, 2, some .char, [], 3, 64)
def mM_9 : mv_Y := (⟨"java/lang/Math", "min", "(II)I"⟩, prog_15_method_69_code, 2, some .int, [], 0, 0)
def mM_10 : mv_Y := (⟨"java/util/Arrays", "copyOf", "([II)[I"⟩, prog_22_method_123_code, 3, some (.array .int), [], 1, 60)
def mM_11 : mv_Y := (⟨"TokenScanner$Spellings", "<init>", "(Ljava/lang/String;)V"⟩, prog_5_method_1_code, 5, none, [], 4, 85)
def mM_12 : mv_Y := (⟨"TokenScanner$Reader", "<init>", "(LTokenScanner$Source;LTokenScanner$Token;)V"⟩, prog_2_method_1_code, 3, none, [], 5, 109)
def mM_13 : mv_Y := (⟨"java/lang/Math", "max", "(II)I"⟩, prog_15_method_65_code, 2, some .int, [], 0, 0)
def mM_14 : mv_Y := (⟨"TokenScanner$Shelf", "<init>", "(II)V"⟩, prog_3_method_1_code, 3, none, [], 1, 21)
def mM_15 : mv_Y := (⟨"TokenScanner", "<init>", "()V"⟩, prog_1_method_1_code, 1, none, [], 6, 131)
def mM_16 : mv_Y := (⟨"TokenScannerModel", "<init>", "()V"⟩, prog_9_method_1_code, 1, none, [], 1, 20)
def mM_17 : mv_Y := (⟨"TokenScanner$Source", "hasRoomFor", "(I)Z"⟩, prog_4_method_2_code, 2, some .boolean, [], 0, 0)
def mM_18 : mv_Y := (⟨"TokenScanner$Source", "add", "(I)V"⟩, prog_4_method_3_code, 2, none, [], 0, 0)
def mM_19 : mv_Y := (⟨"TokenScanner$Source", "size", "()I"⟩, prog_4_method_5_code, 1, some .int, [], 0, 0)
def mM_20 : mv_Y := (⟨"TokenScanner", "feed", "(JI)I"⟩, prog_1_method_2_code, 5, some .int, [], 6, 82)
def mM_21 : mv_Y := (⟨"TokenScannerLaw", "feed", "(LTokenScanner;JI[J)I"⟩, method_3_code, 6, some .int, [(0, 11, 14, 13), (0, 11, 18, 15)], 7, 106)
def mM_22 : mv_Y := (⟨"TokenScannerModel", "throwing", "(ZZ)Z"⟩, prog_9_method_3_code, 3, some .boolean, [], 0, 0)
def mM_23 : mv_Y := (⟨"TokenScannerModel", "feed", "(JI)I"⟩, prog_9_method_4_code, 6, some .int, [], 1, 22)
def mM_24 : mv_Y := (⟨"TokenScannerModel", "thrown", "()I"⟩, prog_9_method_2_code, 1, some .int, [], 0, 0)
def mM_25 : mv_Y := (⟨"TokenScanner$Shelf", "clear", "()V"⟩, prog_3_method_2_code, 1, none, [], 0, 0)
def mM_26 : mv_Y := (⟨"TokenScanner$Reader", "restart", "()V"⟩, prog_2_method_2_code, 1, none, [], 0, 0)
def mM_27 : mv_Y := (⟨"TokenScanner$Token", "clear", "()V"⟩, prog_6_method_2_code, 1, none, [], 0, 0)
def mM_28 : mv_Y := (⟨"TokenScanner$Source", "at", "(I)I"⟩, prog_4_method_6_code, 2, some .int, [], 0, 0)
def mM_29 : mv_Y := (⟨"TokenScanner$Units", "isBlank", "(I)Z"⟩, prog_7_method_2_code, 1, some .boolean, [], 0, 0)
def mM_30 : mv_Y := (⟨"TokenScanner$Units", "isLineEnd", "(I)Z"⟩, prog_7_method_3_code, 1, some .boolean, [], 0, 0)
def mM_31 : mv_Y := (⟨"TokenScanner$Reader", "skipLineComment", "()V"⟩, prog_2_method_7_code, 1, none, [], 1, 21)
def mM_32 : mv_Y := (⟨"TokenScanner$Reader", "refuse", "(I)Z"⟩, prog_2_method_5_code, 2, some .boolean, [], 0, 0)
def mM_33 : mv_Y := (⟨"TokenScanner$Reader", "skipBlockComment", "()Z"⟩, prog_2_method_8_code, 2, some .boolean, [], 1, 21)
def mM_34 : mv_Y := (⟨"TokenScanner$Reader", "skipToToken", "()Z"⟩, prog_2_method_6_code, 4, some .boolean, [], 2, 42)
def mM_35 : mv_Y := (⟨"TokenScanner$Units", "canStartName", "(I)Z"⟩, prog_7_method_5_code, 1, some .boolean, [], 0, 0)
def mM_36 : mv_Y := (⟨"TokenScanner$Units", "hexValue", "(I)I"⟩, prog_7_method_7_code, 1, some .int, [], 0, 0)
def mM_37 : mv_Y := (⟨"TokenScanner$Reader", "readHex", "(I)I"⟩, prog_2_method_11_code, 5, some .int, [], 1, 21)
def mM_38 : mv_Y := (⟨"TokenScanner$Units", "isDigit", "(I)Z"⟩, prog_7_method_4_code, 1, some .boolean, [], 0, 0)
def mM_39 : mv_Y := (⟨"TokenScanner$Units", "canStandInName", "(I)Z"⟩, prog_7_method_6_code, 1, some .boolean, [], 1, 20)
def mM_40 : mv_Y := (⟨"TokenScanner$Token", "add", "(I)V"⟩, prog_6_method_3_code, 2, none, [], 0, 0)
def mM_41 : mv_Y := (⟨"TokenScanner$Reader", "readNameEscape", "()Z"⟩, prog_2_method_10_code, 4, some .boolean, [], 2, 45)
def mM_42 : mv_Y := (⟨"TokenScanner$Spellings", "lengthOf", "(I)I"⟩, prog_5_method_4_code, 2, some .int, [], 0, 0)
def mM_43 : mv_Y := (⟨"TokenScanner$Spellings", "isOf", "(ILTokenScanner$Token;)Z"⟩, prog_5_method_5_code, 5, some .boolean, [], 4, 85)
def mM_44 : mv_Y := (⟨"TokenScanner$Spellings", "exactly", "(LTokenScanner$Token;)I"⟩, prog_5_method_2_code, 3, some .int, [], 5, 109)
def mM_45 : mv_Y := (⟨"TokenScanner$Reader", "readName", "()Z"⟩, prog_2_method_9_code, 3, some .boolean, [], 6, 131)
def mM_46 : mv_Y := (⟨"TokenScanner$Reader", "skipHexNumber", "()Z"⟩, prog_2_method_13_code, 1, some .boolean, [], 1, 21)
def mM_47 : mv_Y := (⟨"TokenScanner$Reader", "skipDigits", "()V"⟩, prog_2_method_16_code, 1, none, [], 1, 21)
def mM_48 : mv_Y := (⟨"TokenScanner$Reader", "skipExponent", "()Z"⟩, prog_2_method_15_code, 3, some .boolean, [], 2, 41)
def mM_49 : mv_Y := (⟨"TokenScanner$Reader", "skipDecimalNumber", "()Z"⟩, prog_2_method_14_code, 1, some .boolean, [], 3, 63)
def mM_50 : mv_Y := (⟨"TokenScanner$Reader", "takeBytesAsUnits", "()V"⟩, prog_2_method_17_code, 2, none, [], 1, 21)
def mM_51 : mv_Y := (⟨"TokenScanner$Reader", "readNumber", "()Z"⟩, prog_2_method_12_code, 5, some .boolean, [], 4, 83)
def mM_52 : mv_Y := (⟨"TokenScanner$Reader", "readZeroEscape", "()Z"⟩, prog_2_method_20_code, 1, some .boolean, [], 1, 21)
def mM_53 : mv_Y := (⟨"TokenScanner$Reader", "skipSecondOfLineEnd", "(I)V"⟩, prog_2_method_21_code, 2, none, [], 1, 21)
def mM_54 : mv_Y := (⟨"TokenScanner$Units", "escapedBy", "(I)I"⟩, prog_7_method_8_code, 1, some .int, [], 0, 0)
def mM_55 : mv_Y := (⟨"TokenScanner$Reader", "readTextEscape", "()Z"⟩, prog_2_method_19_code, 3, some .boolean, [], 2, 45)
def mM_56 : mv_Y := (⟨"TokenScanner$Reader", "readText", "(I)Z"⟩, prog_2_method_18_code, 3, some .boolean, [], 3, 67)
def mM_57 : mv_Y := (⟨"TokenScanner$Spellings", "standsAt", "(ILTokenScanner$Source;I)Z"⟩, prog_5_method_6_code, 6, some .boolean, [], 4, 85)
def mM_58 : mv_Y := (⟨"TokenScanner$Spellings", "longestAt", "(LTokenScanner$Source;I)I"⟩, prog_5_method_3_code, 5, some .int, [], 5, 110)
def mM_59 : mv_Y := (⟨"TokenScanner$Reader", "readSign", "()Z"⟩, prog_2_method_22_code, 2, some .boolean, [], 6, 134)
def mM_60 : mv_Y := (⟨"TokenScanner$Reader", "readToken", "()Z"⟩, prog_2_method_3_code, 3, some .boolean, [], 7, 155)
def mM_61 : mv_Y := (⟨"TokenScanner$Source", "clear", "()V"⟩, prog_4_method_4_code, 1, none, [], 0, 0)
def mM_62 : mv_Y := (⟨"TokenScanner", "useUp", "()V"⟩, prog_1_method_14_code, 1, none, [], 1, 20)
def mM_63 : mv_Y := (⟨"TokenScanner", "kindUnlessRefused", "(Z)I"⟩, prog_1_method_13_code, 2, some .int, [], 6, 82)
def mM_64 : mv_Y := (⟨"TokenScanner", "begin", "()I"⟩, prog_1_method_3_code, 1, some .int, [], 8, 177)
def mM_65 : mv_Y := (⟨"TokenScannerLaw", "begin", "(LTokenScanner;[J)I"⟩, method_4_code, 3, some .int, [(0, 8, 11, 13), (0, 8, 14, 15)], 9, 197)
def mM_66 : mv_Y := (⟨"TokenScannerModel", "see", "(I)I"⟩, prog_9_method_5_code, 2, some .int, [], 0, 0)
def mM_67 : mv_Y := (⟨"TokenScannerModel", "isBlank", "(I)Z"⟩, prog_9_method_10_code, 1, some .boolean, [], 0, 0)
def mM_68 : mv_Y := (⟨"TokenScannerModel", "isLineEnd", "(I)Z"⟩, prog_9_method_9_code, 1, some .boolean, [], 0, 0)
def mM_69 : mv_Y := (⟨"TokenScannerModel", "fail", "(I)V"⟩, prog_9_method_11_code, 2, none, [], 0, 0)
def mM_70 : mv_Y := (⟨"TokenScannerModel", "behindComment", "(I)I"⟩, prog_9_method_13_code, 3, some .int, [], 1, 21)
def mM_71 : mv_Y := (⟨"TokenScannerModel", "skip", "()V"⟩, prog_9_method_14_code, 2, none, [], 2, 43)
def mM_72 : mv_Y := (⟨"TokenScannerModel", "done", "()I"⟩, prog_9_method_30_code, 1, some .int, [], 1, 22)
def mM_73 : mv_Y := (⟨"TokenScannerModel", "isLetter", "(I)Z"⟩, prog_9_method_8_code, 2, some .boolean, [], 0, 0)
def mM_74 : mv_Y := (⟨"TokenScannerModel", "isDigit", "(I)Z"⟩, prog_9_method_6_code, 1, some .boolean, [], 0, 0)
def mM_75 : mv_Y := (⟨"TokenScannerModel", "hexadecimal", "(I)I"⟩, prog_9_method_7_code, 1, some .int, [], 1, 20)
def mM_76 : mv_Y := (⟨"TokenScannerModel", "digits", "(II)I"⟩, prog_9_method_15_code, 5, some .int, [], 2, 40)
def mM_77 : mv_Y := (⟨"TokenScannerModel", "add", "(I)V"⟩, prog_9_method_12_code, 2, none, [], 0, 0)
def mM_78 : mv_Y := (⟨"TokenScannerModel", "wordNumbered", "(I)Ljava/lang/String;"⟩, prog_9_method_17_code, 1, some (.object "java/lang/String"), [], 0, 0)
def mM_79 : mv_Y := (⟨"TokenScannerModel", "isText", "(Ljava/lang/String;)Z"⟩, prog_9_method_18_code, 4, some .boolean, [], 4, 85)
def mM_80 : mv_Y := (⟨"TokenScannerModel", "wordOf", "()I"⟩, prog_9_method_19_code, 3, some .int, [], 5, 108)
def mM_81 : mv_Y := (⟨"TokenScannerModel", "readName", "()V"⟩, prog_9_method_16_code, 4, none, [], 6, 130)
def mM_82 : mv_Y := (⟨"TokenScannerModel", "readDigits", "()V"⟩, prog_9_method_20_code, 1, none, [], 1, 21)
def mM_83 : mv_Y := (⟨"TokenScannerModel", "readDecimal", "()V"⟩, prog_9_method_21_code, 2, none, [], 2, 41)
def mM_84 : mv_Y := (⟨"TokenScannerModel", "readNumber", "()V"⟩, prog_9_method_22_code, 2, none, [], 3, 62)
def mM_85 : mv_Y := (⟨"TokenScannerModel", "readEscape", "()V"⟩, prog_9_method_23_code, 3, none, [], 3, 64)
def mM_86 : mv_Y := (⟨"TokenScannerModel", "readText", "()V"⟩, prog_9_method_24_code, 3, none, [], 4, 86)
def mM_87 : mv_Y := (⟨"TokenScannerModel", "operator", "(I)Ljava/lang/String;"⟩, prog_9_method_26_code, 1, some (.object "java/lang/String"), [], 0, 0)
def mM_88 : mv_Y := (⟨"TokenScannerModel", "signNumbered", "(I)Ljava/lang/String;"⟩, prog_9_method_25_code, 1, some (.object "java/lang/String"), [], 1, 20)
def mM_89 : mv_Y := (⟨"TokenScannerModel", "lengthOf", "(I)I"⟩, prog_9_method_27_code, 6, some .int, [], 4, 85)
def mM_90 : mv_Y := (⟨"TokenScannerModel", "readSign", "()V"⟩, prog_9_method_28_code, 3, none, [], 5, 110)
def mM_91 : mv_Y := (⟨"TokenScannerModel", "readToken", "()I"⟩, prog_9_method_31_code, 2, some .int, [], 7, 153)
def mM_92 : mv_Y := (⟨"TokenScannerModel", "begin", "()I"⟩, prog_9_method_32_code, 1, some .int, [], 8, 174)
def mM_93 : mv_Y := (⟨"TokenScanner", "next", "()I"⟩, prog_1_method_4_code, 1, some .int, [], 8, 177)
def mM_94 : mv_Y := (⟨"TokenScannerLaw", "next", "(LTokenScanner;[J)I"⟩, method_5_code, 3, some .int, [(0, 8, 11, 13), (0, 8, 14, 15)], 9, 197)
def mM_95 : mv_Y := (⟨"TokenScannerModel", "next", "()I"⟩, prog_9_method_33_code, 1, some .int, [], 8, 174)
def mM_96 : mv_Y := (⟨"TokenScanner$Reader", "skipPatternBody", "()Z"⟩, prog_2_method_23_code, 4, some .boolean, [], 1, 21)
def mM_97 : mv_Y := (⟨"TokenScanner$Reader", "readPattern", "()Z"⟩, prog_2_method_4_code, 1, some .boolean, [], 2, 44)
def mM_98 : mv_Y := (⟨"TokenScanner", "pattern", "()I"⟩, prog_1_method_5_code, 1, some .int, [], 7, 103)
def mM_99 : mv_Y := (⟨"TokenScannerLaw", "pattern", "(LTokenScanner;[J)I"⟩, method_6_code, 3, some .int, [(0, 8, 11, 13), (0, 8, 14, 15)], 8, 123)
def mM_100 : mv_Y := (⟨"TokenScannerModel", "readPattern", "()V"⟩, prog_9_method_29_code, 3, none, [], 1, 21)
def mM_101 : mv_Y := (⟨"TokenScannerModel", "pattern", "()I"⟩, prog_9_method_34_code, 1, some .int, [], 2, 43)
def mM_102 : mv_Y := (⟨"TokenScanner", "end", "()V"⟩, prog_1_method_6_code, 1, none, [], 6, 82)
def mM_103 : mv_Y := (⟨"TokenScannerLaw", "end", "(LTokenScanner;)I"⟩, method_7_code, 2, some .int, [(0, 4, 7, 15)], 7, 102)
def mM_104 : mv_Y := (⟨"TokenScannerModel", "end", "()V"⟩, prog_9_method_35_code, 1, none, [], 1, 22)
def mM_105 : mv_Y := (⟨"TokenScanner", "place", "()I"⟩, prog_1_method_7_code, 1, some .int, [], 0, 0)
def mM_106 : mv_Y := (⟨"TokenScannerModel", "place", "()I"⟩, prog_9_method_36_code, 1, some .int, [], 0, 0)
def mM_107 : mv_Y := (⟨"TokenScanner", "oneIf", "(Z)I"⟩, prog_1_method_15_code, 1, some .int, [], 0, 0)
def mM_108 : mv_Y := (⟨"TokenScanner$Token", "isUseStrict", "()Z"⟩, prog_6_method_6_code, 2, some .boolean, [], 4, 85)
def mM_109 : mv_Y := (⟨"TokenScanner", "token", "(I)I"⟩, prog_1_method_8_code, 2, some .int, [], 6, 106)
def mM_110 : mv_Y := (⟨"TokenScannerLaw", "token", "(LTokenScanner;I[J)I"⟩, method_8_code, 4, some .int, [(0, 9, 12, 13), (0, 9, 15, 15)], 7, 127)
def mM_111 : mv_Y := (⟨"TokenScannerModel", "token", "(I)I"⟩, prog_9_method_37_code, 3, some .int, [], 5, 108)
def mM_112 : mv_Y := (⟨"TokenScanner", "unit", "(I)I"⟩, prog_1_method_9_code, 2, some .int, [], 6, 82)
def mM_113 : mv_Y := (⟨"TokenScannerLaw", "unit", "(LTokenScanner;I[J)I"⟩, method_9_code, 4, some .int, [(0, 9, 12, 15), (0, 9, 15, 37)], 7, 103)
def mM_114 : mv_Y := (⟨"TokenScannerModel", "unit", "(I)I"⟩, prog_9_method_38_code, 2, some .int, [], 1, 22)
def mM_115 : mv_Y := (⟨"TokenScanner$Token", "canBeName", "()Z"⟩, prog_6_method_4_code, 1, some .boolean, [], 0, 0)
def mM_116 : mv_Y := (⟨"TokenScanner$Shelf", "holds", "(I)Z"⟩, prog_3_method_3_code, 2, some .boolean, [], 0, 0)
def mM_117 : mv_Y := (⟨"TokenScanner$Shelf", "startOf", "(I)I"⟩, prog_3_method_9_code, 2, some .int, [], 0, 0)
def mM_118 : mv_Y := (⟨"TokenScanner$Shelf", "sizeOf", "(I)I"⟩, prog_3_method_7_code, 2, some .int, [], 1, 21)
def mM_119 : mv_Y := (⟨"TokenScanner$Shelf", "startsWith", "(I[II)Z"⟩, prog_3_method_10_code, 6, some .boolean, [], 1, 21)
def mM_120 : mv_Y := (⟨"TokenScanner$Shelf", "find", "([II)I"⟩, prog_3_method_6_code, 4, some .int, [], 2, 46)
def mM_121 : mv_Y := (⟨"TokenScanner$Shelf", "hasRoomFor", "(I)Z"⟩, prog_3_method_4_code, 2, some .boolean, [], 1, 21)
def mM_122 : mv_Y := (⟨"TokenScanner$Shelf", "add", "([II)I"⟩, prog_3_method_5_code, 4, some .int, [], 2, 60)
def mM_123 : mv_Y := (⟨"TokenScanner", "name", "()I"⟩, prog_1_method_10_code, 2, some .int, [], 6, 83)
def mM_124 : mv_Y := (⟨"TokenScannerLaw", "name", "(LTokenScanner;[J)I"⟩, method_10_code, 3, some .int, [(0, 8, 11, 15)], 7, 104)
def mM_125 : mv_Y := (⟨"TokenScannerModel", "isName", "(I)Z"⟩, prog_9_method_39_code, 5, some .boolean, [], 0, 0)
def mM_126 : mv_Y := (⟨"TokenScannerModel", "name", "()I"⟩, prog_9_method_40_code, 3, some .int, [], 1, 24)
def mM_127 : mv_Y := (⟨"TokenScanner$Token", "canBeLiteral", "()Z"⟩, prog_6_method_5_code, 1, some .boolean, [], 0, 0)
def mM_128 : mv_Y := (⟨"TokenScanner", "literal", "()I"⟩, prog_1_method_11_code, 1, some .int, [], 6, 83)
def mM_129 : mv_Y := (⟨"TokenScannerLaw", "literal", "(LTokenScanner;[J)I"⟩, method_11_code, 3, some .int, [(0, 8, 11, 15)], 7, 103)
def mM_130 : mv_Y := (⟨"TokenScannerModel", "literal", "()I"⟩, prog_9_method_41_code, 4, some .int, [], 1, 22)
def mM_131 : mv_Y := (⟨"TokenScanner$Shelf", "unitOf", "(II)I"⟩, prog_3_method_8_code, 3, some .int, [], 2, 42)
def mM_132 : mv_Y := (⟨"TokenScanner", "text", "(ZII)I"⟩, prog_1_method_12_code, 5, some .int, [], 6, 82)
def mM_133 : mv_Y := (⟨"TokenScannerLaw", "text", "(LTokenScanner;ZII[J)I"⟩, method_12_code, 6, some .int, [(0, 12, 15, 37)], 7, 106)
def mM_134 : mv_Y := (⟨"TokenScannerModel", "text", "(ZII)I"⟩, prog_9_method_42_code, 7, some .int, [], 1, 22)
def mM_135 : mv_Y := (⟨"TokenScannerLaw", "law", "([I)Z"⟩, code, 7, some .boolean, [], 10, 219)
def mg_M : Nat → mv_Y := fun z => (bif Nat.blt z 68 then (bif Nat.blt z 34 then (bif Nat.blt z 17 then (bif Nat.blt z 8 then (bif Nat.blt z 4 then (bif Nat.blt z 2 then (bif Nat.blt z 1 then mM_0 else mM_1) else (bif Nat.blt z 3 then mM_2 else mM_3)) else (bif Nat.blt z 6 then (bif Nat.blt z 5 then mM_4 else mM_5) else (bif Nat.blt z 7 then mM_6 else mM_7))) else (bif Nat.blt z 12 then (bif Nat.blt z 10 then (bif Nat.blt z 9 then mM_8 else mM_9) else (bif Nat.blt z 11 then mM_10 else mM_11)) else (bif Nat.blt z 14 then (bif Nat.blt z 13 then mM_12 else mM_13) else (bif Nat.blt z 15 then mM_14 else (bif Nat.blt z 16 then mM_15 else mM_16))))) else (bif Nat.blt z 25 then (bif Nat.blt z 21 then (bif Nat.blt z 19 then (bif Nat.blt z 18 then mM_17 else mM_18) else (bif Nat.blt z 20 then mM_19 else mM_20)) else (bif Nat.blt z 23 then (bif Nat.blt z 22 then mM_21 else mM_22) else (bif Nat.blt z 24 then mM_23 else mM_24))) else (bif Nat.blt z 29 then (bif Nat.blt z 27 then (bif Nat.blt z 26 then mM_25 else mM_26) else (bif Nat.blt z 28 then mM_27 else mM_28)) else (bif Nat.blt z 31 then (bif Nat.blt z 30 then mM_29 else mM_30) else (bif Nat.blt z 32 then mM_31 else (bif Nat.blt z 33 then mM_32 else mM_33)))))) else (bif Nat.blt z 51 then (bif Nat.blt z 42 then (bif Nat.blt z 38 then (bif Nat.blt z 36 then (bif Nat.blt z 35 then mM_34 else mM_35) else (bif Nat.blt z 37 then mM_36 else mM_37)) else (bif Nat.blt z 40 then (bif Nat.blt z 39 then mM_38 else mM_39) else (bif Nat.blt z 41 then mM_40 else mM_41))) else (bif Nat.blt z 46 then (bif Nat.blt z 44 then (bif Nat.blt z 43 then mM_42 else mM_43) else (bif Nat.blt z 45 then mM_44 else mM_45)) else (bif Nat.blt z 48 then (bif Nat.blt z 47 then mM_46 else mM_47) else (bif Nat.blt z 49 then mM_48 else (bif Nat.blt z 50 then mM_49 else mM_50))))) else (bif Nat.blt z 59 then (bif Nat.blt z 55 then (bif Nat.blt z 53 then (bif Nat.blt z 52 then mM_51 else mM_52) else (bif Nat.blt z 54 then mM_53 else mM_54)) else (bif Nat.blt z 57 then (bif Nat.blt z 56 then mM_55 else mM_56) else (bif Nat.blt z 58 then mM_57 else mM_58))) else (bif Nat.blt z 63 then (bif Nat.blt z 61 then (bif Nat.blt z 60 then mM_59 else mM_60) else (bif Nat.blt z 62 then mM_61 else mM_62)) else (bif Nat.blt z 65 then (bif Nat.blt z 64 then mM_63 else mM_64) else (bif Nat.blt z 66 then mM_65 else (bif Nat.blt z 67 then mM_66 else mM_67))))))) else (bif Nat.blt z 102 then (bif Nat.blt z 85 then (bif Nat.blt z 76 then (bif Nat.blt z 72 then (bif Nat.blt z 70 then (bif Nat.blt z 69 then mM_68 else mM_69) else (bif Nat.blt z 71 then mM_70 else mM_71)) else (bif Nat.blt z 74 then (bif Nat.blt z 73 then mM_72 else mM_73) else (bif Nat.blt z 75 then mM_74 else mM_75))) else (bif Nat.blt z 80 then (bif Nat.blt z 78 then (bif Nat.blt z 77 then mM_76 else mM_77) else (bif Nat.blt z 79 then mM_78 else mM_79)) else (bif Nat.blt z 82 then (bif Nat.blt z 81 then mM_80 else mM_81) else (bif Nat.blt z 83 then mM_82 else (bif Nat.blt z 84 then mM_83 else mM_84))))) else (bif Nat.blt z 93 then (bif Nat.blt z 89 then (bif Nat.blt z 87 then (bif Nat.blt z 86 then mM_85 else mM_86) else (bif Nat.blt z 88 then mM_87 else mM_88)) else (bif Nat.blt z 91 then (bif Nat.blt z 90 then mM_89 else mM_90) else (bif Nat.blt z 92 then mM_91 else mM_92))) else (bif Nat.blt z 97 then (bif Nat.blt z 95 then (bif Nat.blt z 94 then mM_93 else mM_94) else (bif Nat.blt z 96 then mM_95 else mM_96)) else (bif Nat.blt z 99 then (bif Nat.blt z 98 then mM_97 else mM_98) else (bif Nat.blt z 100 then mM_99 else (bif Nat.blt z 101 then mM_100 else mM_101)))))) else (bif Nat.blt z 119 then (bif Nat.blt z 110 then (bif Nat.blt z 106 then (bif Nat.blt z 104 then (bif Nat.blt z 103 then mM_102 else mM_103) else (bif Nat.blt z 105 then mM_104 else mM_105)) else (bif Nat.blt z 108 then (bif Nat.blt z 107 then mM_106 else mM_107) else (bif Nat.blt z 109 then mM_108 else mM_109))) else (bif Nat.blt z 114 then (bif Nat.blt z 112 then (bif Nat.blt z 111 then mM_110 else mM_111) else (bif Nat.blt z 113 then mM_112 else mM_113)) else (bif Nat.blt z 116 then (bif Nat.blt z 115 then mM_114 else mM_115) else (bif Nat.blt z 117 then mM_116 else (bif Nat.blt z 118 then mM_117 else mM_118))))) else (bif Nat.blt z 127 then (bif Nat.blt z 123 then (bif Nat.blt z 121 then (bif Nat.blt z 120 then mM_119 else mM_120) else (bif Nat.blt z 122 then mM_121 else mM_122)) else (bif Nat.blt z 125 then (bif Nat.blt z 124 then mM_123 else mM_124) else (bif Nat.blt z 126 then mM_125 else mM_126))) else (bif Nat.blt z 131 then (bif Nat.blt z 129 then (bif Nat.blt z 128 then mM_127 else mM_128) else (bif Nat.blt z 130 then mM_129 else mM_130)) else (bif Nat.blt z 133 then (bif Nat.blt z 132 then mM_131 else mM_132) else (bif Nat.blt z 134 then mM_133 else (bif Nat.blt z 135 then mM_134 else mM_135))))))))
def mg_X : Nat → Nat → Nat → Option (Nat × Nat) := fun y pc k => (bif Nat.blt y 110 then (bif Nat.blt y 94 then (bif Nat.blt y 65 then (bif Nat.beq y 21 && Nat.beq pc 6 then (bif Nat.beq k 0 then some (16, 5) else (bif Nat.beq k 1 then some (20, 5) else none)) else none) else (bif Nat.beq y 65 && Nat.beq pc 3 then (bif Nat.beq k 0 then some (12, 2) else (bif Nat.beq k 1 then some (15, 2) else none)) else none)) else (bif Nat.blt y 99 then (bif Nat.beq y 94 && Nat.beq pc 3 then (bif Nat.beq k 0 then some (12, 2) else (bif Nat.beq k 1 then some (15, 2) else none)) else none) else (bif Nat.blt y 103 then (bif Nat.beq y 99 && Nat.beq pc 3 then (bif Nat.beq k 0 then some (12, 2) else (bif Nat.beq k 1 then some (15, 2) else none)) else none) else (bif Nat.beq y 103 && Nat.beq pc 1 then (bif Nat.beq k 1 then some (8, 1) else none) else none)))) else (bif Nat.blt y 124 then (bif Nat.blt y 113 then (bif Nat.beq y 110 && Nat.beq pc 4 then (bif Nat.beq k 0 then some (13, 3) else (bif Nat.beq k 1 then some (16, 3) else none)) else none) else (bif Nat.beq y 113 && Nat.beq pc 4 then (bif Nat.beq k 1 then some (13, 3) else (bif Nat.beq k 2 then some (16, 3) else none)) else none)) else (bif Nat.blt y 129 then (bif Nat.beq y 124 && Nat.beq pc 3 then (bif Nat.beq k 1 then some (12, 2) else none) else none) else (bif Nat.blt y 133 then (bif Nat.beq y 129 && Nat.beq pc 3 then (bif Nat.beq k 1 then some (12, 2) else none) else none) else (bif Nat.beq y 133 && Nat.beq pc 7 then (bif Nat.beq k 2 then some (17, 5) else none) else none)))))
def mg_exn : Nat → String := fun k => match k with
  | 0 => "java/lang/IllegalArgumentException"
  | 1 => "java/lang/IllegalStateException"
  | _ => "java/lang/IndexOutOfBoundsException"
def ms_own : Nat → String := fun i => ["TokenScanner$Reader", "TokenScanner$Reader", "TokenScanner", "TokenScanner", "TokenScanner", "TokenScanner", "TokenScanner", "TokenScanner", "TokenScanner", "TokenScanner", "TokenScanner$Token", "TokenScanner", "TokenScanner", "TokenScanner", "TokenScanner", "TokenScanner", "TokenScanner", "TokenScannerModel", "TokenScannerModel", "TokenScannerModel", "TokenScannerModel", "TokenScannerModel", "TokenScannerModel", "TokenScannerModel", "TokenScannerModel", "TokenScannerModel", "TokenScannerModel", "TokenScannerModel", "TokenScannerModel", "TokenScannerModel", "TokenScannerModel", "TokenScannerModel", "TokenScannerModel", "TokenScannerModel", "TokenScannerModel", "TokenScannerModel", "TokenScannerModel", "TokenScannerModel", "TokenScannerModel", "TokenScannerModel", "TokenScannerModel", "TokenScannerModel", "TokenScannerModel", "TokenScannerModel", "TokenScannerModel", "TokenScannerModel", "TokenScannerModel", "TokenScannerModel", "TokenScannerModel", "TokenScannerModel", "TokenScannerModel", "TokenScannerModel", "TokenScannerModel", "TokenScannerModel", "TokenScannerModel", "TokenScannerModel", "TokenScannerModel", "TokenScannerModel", "TokenScannerModel", "TokenScannerModel", "TokenScannerModel", "TokenScannerModel", "TokenScannerModel", "TokenScannerModel", "TokenScannerModel", "TokenScannerModel", "TokenScannerModel", "TokenScannerModel", "TokenScannerModel", "TokenScannerModel", "TokenScannerModel", "TokenScannerModel", "TokenScannerModel", "TokenScannerModel", "TokenScannerModel", "TokenScannerModel", "TokenScannerModel", "TokenScannerModel", "TokenScannerModel", "TokenScannerModel", "TokenScannerModel", "TokenScannerModel", "TokenScannerModel", "TokenScannerModel", "TokenScannerModel", "TokenScannerModel", "TokenScannerModel", "TokenScannerModel", "TokenScannerModel", "TokenScannerModel", "TokenScannerModel", "TokenScannerModel", "TokenScannerModel", "TokenScannerModel", "TokenScannerModel", "TokenScannerModel", "TokenScannerModel", "TokenScannerModel", "TokenScannerModel", "TokenScannerModel", "TokenScannerModel"].getD i ""
def ms_idx : Nat → Nat := fun i => [11, 22, 54, 61, 68, 179, 95, 100, 105, 110, 41, 137, 147, 158, 161, 166, 172, 107, 109, 111, 113, 115, 117, 119, 121, 123, 125, 127, 129, 131, 133, 135, 137, 139, 141, 143, 145, 147, 149, 151, 153, 155, 157, 159, 161, 163, 165, 167, 169, 171, 173, 175, 177, 179, 181, 183, 185, 187, 189, 191, 193, 195, 197, 228, 230, 232, 234, 236, 238, 240, 242, 244, 246, 248, 250, 252, 254, 256, 258, 260, 262, 264, 266, 268, 270, 272, 274, 276, 278, 283, 285, 287, 289, 291, 293, 295, 297, 299, 301, 303, 344].getD i 0
def ms_txt : Nat → String := fun i => ["break case catch continue debugger default delete do else finally for function if in instanceof new return switch this throw try typeof var void while with null true false class const enum export extends import super implements interface let package private protected public static yield ", "|| && | ^ & == != === !== < > <= >= << >> >>> + - * / % = |= ^= &= <<= >>= >>>= += -= *= /= %= ( ) [ ] { } . ; , ? : ! ~ ++ -- ", "1 to 8 bytes are fed at once", "the text has begun", "a text has at most 2000 bytes", "the text is refused", "there is no token to go on from", "a pattern begins where / or /= stands", "there is no token", "there is no such what", "use strict", "the token has no such unit", "there is no name, number or text", "there is no number, text or pattern", "there is no room for a literal more", "there is no such literal or name", "it has no such unit", "break", "case", "catch", "continue", "debugger", "default", "delete", "do", "else", "finally", "for", "function", "if", "in", "instanceof", "new", "return", "switch", "this", "throw", "try", "typeof", "var", "void", "while", "with", "null", "true", "false", "class", "const", "enum", "export", "extends", "import", "super", "implements", "interface", "let", "package", "private", "protected", "public", "static", "yield", "", "||", "&&", "==", "!=", "===", "!==", "<", ">", "<=", ">=", "=", "(", ")", "[", "]", "{", "}", ".", ";", ",", "?", ":", "!", "~", "++", "--", "|", "^", "&", "<<", ">>", ">>>", "+", "-", "*", "/", "%", "use strict"].getD i ""
def ms_b0 : List Int32 := [98, 114, 101, 97, 107, 32, 99, 97, 115, 101, 32, 99, 97, 116, 99, 104, 32, 99, 111, 110, 116, 105, 110, 117, 101, 32, 100, 101, 98, 117, 103, 103, 101, 114, 32, 100, 101, 102, 97, 117, 108, 116, 32, 100, 101, 108, 101, 116, 101, 32, 100, 111, 32, 101, 108, 115, 101, 32, 102, 105, 110, 97, 108, 108, 121, 32, 102, 111, 114, 32, 102, 117, 110, 99, 116, 105, 111, 110, 32, 105, 102, 32, 105, 110, 32, 105, 110, 115, 116, 97, 110, 99, 101, 111, 102, 32, 110, 101, 119, 32, 114, 101, 116, 117, 114, 110, 32, 115, 119, 105, 116, 99, 104, 32, 116, 104, 105, 115, 32, 116, 104, 114, 111, 119, 32, 116, 114, 121, 32, 116, 121, 112, 101, 111, 102, 32, 118, 97, 114, 32, 118, 111, 105, 100, 32, 119, 104, 105, 108, 101, 32, 119, 105, 116, 104, 32, 110, 117, 108, 108, 32, 116, 114, 117, 101, 32, 102, 97, 108, 115, 101, 32, 99, 108, 97, 115, 115, 32, 99, 111, 110, 115, 116, 32, 101, 110, 117, 109, 32, 101, 120, 112, 111, 114, 116, 32, 101, 120, 116, 101, 110, 100, 115, 32, 105, 109, 112, 111, 114, 116, 32, 115, 117, 112, 101, 114, 32, 105, 109, 112, 108, 101, 109, 101, 110, 116, 115, 32, 105, 110, 116, 101, 114, 102, 97, 99, 101, 32, 108, 101, 116, 32, 112, 97, 99, 107, 97, 103, 101, 32, 112, 114, 105, 118, 97, 116, 101, 32, 112, 114, 111, 116, 101, 99, 116, 101, 100, 32, 112, 117, 98, 108, 105, 99, 32, 115, 116, 97, 116, 105, 99, 32, 121, 105, 101, 108, 100, 32]
def ms_b1 : List Int32 := [124, 124, 32, 38, 38, 32, 124, 32, 94, 32, 38, 32, 61, 61, 32, 33, 61, 32, 61, 61, 61, 32, 33, 61, 61, 32, 60, 32, 62, 32, 60, 61, 32, 62, 61, 32, 60, 60, 32, 62, 62, 32, 62, 62, 62, 32, 43, 32, 45, 32, 42, 32, 47, 32, 37, 32, 61, 32, 124, 61, 32, 94, 61, 32, 38, 61, 32, 60, 60, 61, 32, 62, 62, 61, 32, 62, 62, 62, 61, 32, 43, 61, 32, 45, 61, 32, 42, 61, 32, 47, 61, 32, 37, 61, 32, 40, 32, 41, 32, 91, 32, 93, 32, 123, 32, 125, 32, 46, 32, 59, 32, 44, 32, 63, 32, 58, 32, 33, 32, 126, 32, 43, 43, 32, 45, 45, 32]
def ms_b2 : List Int32 := [49, 32, 116, 111, 32, 56, 32, 98, 121, 116, 101, 115, 32, 97, 114, 101, 32, 102, 101, 100, 32, 97, 116, 32, 111, 110, 99, 101]
def ms_b3 : List Int32 := [116, 104, 101, 32, 116, 101, 120, 116, 32, 104, 97, 115, 32, 98, 101, 103, 117, 110]
def ms_b4 : List Int32 := [97, 32, 116, 101, 120, 116, 32, 104, 97, 115, 32, 97, 116, 32, 109, 111, 115, 116, 32, 50, 48, 48, 48, 32, 98, 121, 116, 101, 115]
def ms_b5 : List Int32 := [116, 104, 101, 32, 116, 101, 120, 116, 32, 105, 115, 32, 114, 101, 102, 117, 115, 101, 100]
def ms_b6 : List Int32 := [116, 104, 101, 114, 101, 32, 105, 115, 32, 110, 111, 32, 116, 111, 107, 101, 110, 32, 116, 111, 32, 103, 111, 32, 111, 110, 32, 102, 114, 111, 109]
def ms_b7 : List Int32 := [97, 32, 112, 97, 116, 116, 101, 114, 110, 32, 98, 101, 103, 105, 110, 115, 32, 119, 104, 101, 114, 101, 32, 47, 32, 111, 114, 32, 47, 61, 32, 115, 116, 97, 110, 100, 115]
def ms_b8 : List Int32 := [116, 104, 101, 114, 101, 32, 105, 115, 32, 110, 111, 32, 116, 111, 107, 101, 110]
def ms_b9 : List Int32 := [116, 104, 101, 114, 101, 32, 105, 115, 32, 110, 111, 32, 115, 117, 99, 104, 32, 119, 104, 97, 116]
def ms_b10 : List Int32 := [117, 115, 101, 32, 115, 116, 114, 105, 99, 116]
def ms_b11 : List Int32 := [116, 104, 101, 32, 116, 111, 107, 101, 110, 32, 104, 97, 115, 32, 110, 111, 32, 115, 117, 99, 104, 32, 117, 110, 105, 116]
def ms_b12 : List Int32 := [116, 104, 101, 114, 101, 32, 105, 115, 32, 110, 111, 32, 110, 97, 109, 101, 44, 32, 110, 117, 109, 98, 101, 114, 32, 111, 114, 32, 116, 101, 120, 116]
def ms_b13 : List Int32 := [116, 104, 101, 114, 101, 32, 105, 115, 32, 110, 111, 32, 110, 117, 109, 98, 101, 114, 44, 32, 116, 101, 120, 116, 32, 111, 114, 32, 112, 97, 116, 116, 101, 114, 110]
def ms_b14 : List Int32 := [116, 104, 101, 114, 101, 32, 105, 115, 32, 110, 111, 32, 114, 111, 111, 109, 32, 102, 111, 114, 32, 97, 32, 108, 105, 116, 101, 114, 97, 108, 32, 109, 111, 114, 101]
def ms_b15 : List Int32 := [116, 104, 101, 114, 101, 32, 105, 115, 32, 110, 111, 32, 115, 117, 99, 104, 32, 108, 105, 116, 101, 114, 97, 108, 32, 111, 114, 32, 110, 97, 109, 101]
def ms_b16 : List Int32 := [105, 116, 32, 104, 97, 115, 32, 110, 111, 32, 115, 117, 99, 104, 32, 117, 110, 105, 116]
def ms_b17 : List Int32 := [98, 114, 101, 97, 107]
def ms_b18 : List Int32 := [99, 97, 115, 101]
def ms_b19 : List Int32 := [99, 97, 116, 99, 104]
def ms_b20 : List Int32 := [99, 111, 110, 116, 105, 110, 117, 101]
def ms_b21 : List Int32 := [100, 101, 98, 117, 103, 103, 101, 114]
def ms_b22 : List Int32 := [100, 101, 102, 97, 117, 108, 116]
def ms_b23 : List Int32 := [100, 101, 108, 101, 116, 101]
def ms_b24 : List Int32 := [100, 111]
def ms_b25 : List Int32 := [101, 108, 115, 101]
def ms_b26 : List Int32 := [102, 105, 110, 97, 108, 108, 121]
def ms_b27 : List Int32 := [102, 111, 114]
def ms_b28 : List Int32 := [102, 117, 110, 99, 116, 105, 111, 110]
def ms_b29 : List Int32 := [105, 102]
def ms_b30 : List Int32 := [105, 110]
def ms_b31 : List Int32 := [105, 110, 115, 116, 97, 110, 99, 101, 111, 102]
def ms_b32 : List Int32 := [110, 101, 119]
def ms_b33 : List Int32 := [114, 101, 116, 117, 114, 110]
def ms_b34 : List Int32 := [115, 119, 105, 116, 99, 104]
def ms_b35 : List Int32 := [116, 104, 105, 115]
def ms_b36 : List Int32 := [116, 104, 114, 111, 119]
def ms_b37 : List Int32 := [116, 114, 121]
def ms_b38 : List Int32 := [116, 121, 112, 101, 111, 102]
def ms_b39 : List Int32 := [118, 97, 114]
def ms_b40 : List Int32 := [118, 111, 105, 100]
def ms_b41 : List Int32 := [119, 104, 105, 108, 101]
def ms_b42 : List Int32 := [119, 105, 116, 104]
def ms_b43 : List Int32 := [110, 117, 108, 108]
def ms_b44 : List Int32 := [116, 114, 117, 101]
def ms_b45 : List Int32 := [102, 97, 108, 115, 101]
def ms_b46 : List Int32 := [99, 108, 97, 115, 115]
def ms_b47 : List Int32 := [99, 111, 110, 115, 116]
def ms_b48 : List Int32 := [101, 110, 117, 109]
def ms_b49 : List Int32 := [101, 120, 112, 111, 114, 116]
def ms_b50 : List Int32 := [101, 120, 116, 101, 110, 100, 115]
def ms_b51 : List Int32 := [105, 109, 112, 111, 114, 116]
def ms_b52 : List Int32 := [115, 117, 112, 101, 114]
def ms_b53 : List Int32 := [105, 109, 112, 108, 101, 109, 101, 110, 116, 115]
def ms_b54 : List Int32 := [105, 110, 116, 101, 114, 102, 97, 99, 101]
def ms_b55 : List Int32 := [108, 101, 116]
def ms_b56 : List Int32 := [112, 97, 99, 107, 97, 103, 101]
def ms_b57 : List Int32 := [112, 114, 105, 118, 97, 116, 101]
def ms_b58 : List Int32 := [112, 114, 111, 116, 101, 99, 116, 101, 100]
def ms_b59 : List Int32 := [112, 117, 98, 108, 105, 99]
def ms_b60 : List Int32 := [115, 116, 97, 116, 105, 99]
def ms_b61 : List Int32 := [121, 105, 101, 108, 100]
def ms_b62 : List Int32 := []
def ms_b63 : List Int32 := [124, 124]
def ms_b64 : List Int32 := [38, 38]
def ms_b65 : List Int32 := [61, 61]
def ms_b66 : List Int32 := [33, 61]
def ms_b67 : List Int32 := [61, 61, 61]
def ms_b68 : List Int32 := [33, 61, 61]
def ms_b69 : List Int32 := [60]
def ms_b70 : List Int32 := [62]
def ms_b71 : List Int32 := [60, 61]
def ms_b72 : List Int32 := [62, 61]
def ms_b73 : List Int32 := [61]
def ms_b74 : List Int32 := [40]
def ms_b75 : List Int32 := [41]
def ms_b76 : List Int32 := [91]
def ms_b77 : List Int32 := [93]
def ms_b78 : List Int32 := [123]
def ms_b79 : List Int32 := [125]
def ms_b80 : List Int32 := [46]
def ms_b81 : List Int32 := [59]
def ms_b82 : List Int32 := [44]
def ms_b83 : List Int32 := [63]
def ms_b84 : List Int32 := [58]
def ms_b85 : List Int32 := [33]
def ms_b86 : List Int32 := [126]
def ms_b87 : List Int32 := [43, 43]
def ms_b88 : List Int32 := [45, 45]
def ms_b89 : List Int32 := [124]
def ms_b90 : List Int32 := [94]
def ms_b91 : List Int32 := [38]
def ms_b92 : List Int32 := [60, 60]
def ms_b93 : List Int32 := [62, 62]
def ms_b94 : List Int32 := [62, 62, 62]
def ms_b95 : List Int32 := [43]
def ms_b96 : List Int32 := [45]
def ms_b97 : List Int32 := [42]
def ms_b98 : List Int32 := [47]
def ms_b99 : List Int32 := [37]
def ms_b100 : List Int32 := [117, 115, 101, 32, 115, 116, 114, 105, 99, 116]
def ms_byt : Nat → List Int32 := fun i => (bif Nat.blt i 50 then (bif Nat.blt i 25 then (bif Nat.blt i 12 then (bif Nat.blt i 6 then (bif Nat.blt i 3 then (bif Nat.blt i 1 then ms_b0 else (bif Nat.blt i 2 then ms_b1 else ms_b2)) else (bif Nat.blt i 4 then ms_b3 else (bif Nat.blt i 5 then ms_b4 else ms_b5))) else (bif Nat.blt i 9 then (bif Nat.blt i 7 then ms_b6 else (bif Nat.blt i 8 then ms_b7 else ms_b8)) else (bif Nat.blt i 10 then ms_b9 else (bif Nat.blt i 11 then ms_b10 else ms_b11)))) else (bif Nat.blt i 18 then (bif Nat.blt i 15 then (bif Nat.blt i 13 then ms_b12 else (bif Nat.blt i 14 then ms_b13 else ms_b14)) else (bif Nat.blt i 16 then ms_b15 else (bif Nat.blt i 17 then ms_b16 else ms_b17))) else (bif Nat.blt i 21 then (bif Nat.blt i 19 then ms_b18 else (bif Nat.blt i 20 then ms_b19 else ms_b20)) else (bif Nat.blt i 23 then (bif Nat.blt i 22 then ms_b21 else ms_b22) else (bif Nat.blt i 24 then ms_b23 else ms_b24))))) else (bif Nat.blt i 37 then (bif Nat.blt i 31 then (bif Nat.blt i 28 then (bif Nat.blt i 26 then ms_b25 else (bif Nat.blt i 27 then ms_b26 else ms_b27)) else (bif Nat.blt i 29 then ms_b28 else (bif Nat.blt i 30 then ms_b29 else ms_b30))) else (bif Nat.blt i 34 then (bif Nat.blt i 32 then ms_b31 else (bif Nat.blt i 33 then ms_b32 else ms_b33)) else (bif Nat.blt i 35 then ms_b34 else (bif Nat.blt i 36 then ms_b35 else ms_b36)))) else (bif Nat.blt i 43 then (bif Nat.blt i 40 then (bif Nat.blt i 38 then ms_b37 else (bif Nat.blt i 39 then ms_b38 else ms_b39)) else (bif Nat.blt i 41 then ms_b40 else (bif Nat.blt i 42 then ms_b41 else ms_b42))) else (bif Nat.blt i 46 then (bif Nat.blt i 44 then ms_b43 else (bif Nat.blt i 45 then ms_b44 else ms_b45)) else (bif Nat.blt i 48 then (bif Nat.blt i 47 then ms_b46 else ms_b47) else (bif Nat.blt i 49 then ms_b48 else ms_b49)))))) else (bif Nat.blt i 75 then (bif Nat.blt i 62 then (bif Nat.blt i 56 then (bif Nat.blt i 53 then (bif Nat.blt i 51 then ms_b50 else (bif Nat.blt i 52 then ms_b51 else ms_b52)) else (bif Nat.blt i 54 then ms_b53 else (bif Nat.blt i 55 then ms_b54 else ms_b55))) else (bif Nat.blt i 59 then (bif Nat.blt i 57 then ms_b56 else (bif Nat.blt i 58 then ms_b57 else ms_b58)) else (bif Nat.blt i 60 then ms_b59 else (bif Nat.blt i 61 then ms_b60 else ms_b61)))) else (bif Nat.blt i 68 then (bif Nat.blt i 65 then (bif Nat.blt i 63 then ms_b62 else (bif Nat.blt i 64 then ms_b63 else ms_b64)) else (bif Nat.blt i 66 then ms_b65 else (bif Nat.blt i 67 then ms_b66 else ms_b67))) else (bif Nat.blt i 71 then (bif Nat.blt i 69 then ms_b68 else (bif Nat.blt i 70 then ms_b69 else ms_b70)) else (bif Nat.blt i 73 then (bif Nat.blt i 72 then ms_b71 else ms_b72) else (bif Nat.blt i 74 then ms_b73 else ms_b74))))) else (bif Nat.blt i 88 then (bif Nat.blt i 81 then (bif Nat.blt i 78 then (bif Nat.blt i 76 then ms_b75 else (bif Nat.blt i 77 then ms_b76 else ms_b77)) else (bif Nat.blt i 79 then ms_b78 else (bif Nat.blt i 80 then ms_b79 else ms_b80))) else (bif Nat.blt i 84 then (bif Nat.blt i 82 then ms_b81 else (bif Nat.blt i 83 then ms_b82 else ms_b83)) else (bif Nat.blt i 86 then (bif Nat.blt i 85 then ms_b84 else ms_b85) else (bif Nat.blt i 87 then ms_b86 else ms_b87)))) else (bif Nat.blt i 94 then (bif Nat.blt i 91 then (bif Nat.blt i 89 then ms_b88 else (bif Nat.blt i 90 then ms_b89 else ms_b90)) else (bif Nat.blt i 92 then ms_b91 else (bif Nat.blt i 93 then ms_b92 else ms_b93))) else (bif Nat.blt i 97 then (bif Nat.blt i 95 then ms_b94 else (bif Nat.blt i 96 then ms_b95 else ms_b96)) else (bif Nat.blt i 99 then (bif Nat.blt i 98 then ms_b97 else ms_b98) else (bif Nat.blt i 100 then ms_b99 else ms_b100)))))))
def ms_sgn : List Int32 := [1, 2, 3, 4, 5, 6, 7, 8, 9, 10, 11, 12, 13, 16, 17, 18, 19, 20, 21, 22, 23, 30, 33, 34, 35, 46, 47, 48, 49, 50, 51, 52, 53, 60, 61, 62, 63, 64, 65, 66, 67, 68, 69, 70, 71, 72, 73, 74]
/-- what stands outside the world: texts, tables, statics; the script of L ints xs -/
def mg_Ph (L : Nat) (xs : Nat → Int32) (sd : Nat → Option Nat) (A : Nat → Prop) (U : State) (H : Heap) : Prop :=
  (∀ i, i < 101 → ∃ a v, sd i = some a ∧ sd (200 + i) = some v ∧ va_O "java/lang/String" a A U H ∧ va_OF "java/lang/String" "coder" "B" (.int 0) a A U H ∧ va_OF "java/lang/String" "value" "[B" (.ref v) a A U H ∧ va_T .byte v (ms_byt i).length (fun j => .int ((ms_byt i).getD j 0)) A U H ∧ vk_R (ms_own i) (ms_idx i) (ms_txt i) a U) ∧
  va_Z "java/lang/String" "COMPACT_STRINGS" "Z" (.int 1) A U H ∧ va_Z "jdk/internal/util/Preconditions" "SIOOBE_FORMATTER" "Ljava/util/function/BiFunction;" (va_rf (sd 400)) A U H ∧
  (∃ t, sd 401 = some t ∧ va_Z "TokenScanner" "SIGN_NUMBERS" "[I" (.ref t) A U H ∧ va_T .int t 48 (fun j => .int (ms_sgn.getD j 0)) A U H) ∧ (∃ t, sd 402 = some t ∧ va_T .int t L (fun j => .int (xs j)) A U H) ∧
  (mz_L Bundle.tN "UNASSIGNED_STACK" Bundle.steD A U H ∧ mz_L Bundle.tN "SUPPRESSED_SENTINEL" Bundle.listD A U H) ∧ va_Nc "java/lang/IllegalStateException" "java/lang/IllegalArgumentException" U ∧ va_Nc "java/lang/IndexOutOfBoundsException" "java/lang/IllegalStateException" U
def mg (L : Nat) (xs : Nat → Int32) : mv_Gp := (mg_G, mf_cl, [.int, .long], mg_Ph L xs, mg_exn, mg_M, mg_X)
theorem mg_Ph_moved {L : Nat} {xs : Nat → Int32} {sd : Nat → Option Nat} {A : Nat → Prop} {s U : State} {H : Heap} (hW : s.WarmedH U.vm) (h : mg_Ph L xs sd A s H) : mg_Ph L xs sd A U H := by
  obtain ⟨h1, h2, h3, ⟨t4, h4, h4a, h4b⟩, ⟨t5, h5, h5a⟩, ⟨h6, h7⟩, h8⟩ := h
  refine ⟨fun i hi => ?_, va_Z.moved hW.alike h2, va_Z.moved hW.alike h3, ⟨t4, h4, va_Z.moved hW.alike h4a, va_T.moved hW.alike h4b⟩, ⟨t5, h5, va_T.moved hW.alike h5a⟩, ⟨h6.moved hW.alike, h7.moved hW.alike⟩, ?_⟩
  · obtain ⟨a, v, q1, q2, q3, q4, q5, q6, q7⟩ := h1 i hi
    exact ⟨a, v, q1, q2, va_O.moved hW.alike q3, va_OF.moved hW.alike q4, va_OF.moved hW.alike q5, va_T.moved hW.alike q6, vk_R.warm hW q7⟩
  · obtain ⟨n0, n1⟩ := h8
    exact ⟨va_Nc.moved hW.alike n0, va_Nc.moved hW.alike n1⟩
theorem mg_Ph_kept {L : Nat} {xs : Nat → Int32} {sd : Nat → Option Nat} {A : Nat → Prop} {s : State} {H H1 : Heap} (h : mg_Ph L xs sd A s H) (hq : ∀ a : Nat, a < H.size → ¬ A a → H1[a]? = H[a]?) : mg_Ph L xs sd A s H1 := by
  obtain ⟨h1, h2, h3, ⟨t4, h4, h4a, h4b⟩, ⟨t5, h5, h5a⟩, ⟨h6, h7⟩, h8⟩ := h
  refine ⟨fun i hi => ?_, h2.kept hq, h3.kept hq, ⟨t4, h4, h4a.kept hq, h4b.kept hq⟩, ⟨t5, h5, h5a.kept hq⟩, ⟨h6.kept hq, h7.kept hq⟩, h8⟩
  obtain ⟨a, v, q1, q2, q3, q4, q5, q6, q7⟩ := h1 i hi
  exact ⟨a, v, q1, q2, q3.kept hq, q4.kept hq, q5.kept hq, q6.kept hq, q7⟩
theorem mg_Ph_narrow {L : Nat} {xs : Nat → Int32} {sd : Nat → Option Nat} {A B : Nat → Prop} {s : State} {H : Heap} (h : mg_Ph L xs sd A s H) (hq : ∀ q, B q → A q) : mg_Ph L xs sd B s H := by
  obtain ⟨h1, h2, h3, ⟨t4, h4, h4a, h4b⟩, ⟨t5, h5, h5a⟩, ⟨h6, h7⟩, h8⟩ := h
  refine ⟨fun i hi => ?_, h2.narrow hq, h3.narrow hq, ⟨t4, h4, h4a.narrow hq, h4b.narrow hq⟩, ⟨t5, h5, h5a.narrow hq⟩, ⟨h6.narrow hq, h7.narrow hq⟩, h8⟩
  obtain ⟨a, v, q1, q2, q3, q4, q5, q6, q7⟩ := h1 i hi
  exact ⟨a, v, q1, q2, q3.narrow hq, q4.narrow hq, q5.narrow hq, q6.narrow hq, q7⟩
theorem mg_Ok (L : Nat) (xs : Nat → Int32) : mv_Ok (mg L xs) := ⟨fun w hw a a' s U hW h => mg_ride (List.mem_filter.mp hw).2 hW h, fun _ _ _ _ _ hW h => mg_Ph_moved hW h, fun _ _ _ _ _ h hq => mg_Ph_kept h hq, fun _ _ _ _ _ h hq => mg_Ph_narrow h hq⟩
def mg_isS (q : Nat) : Bool := Nat.blt q 101
def mg_fV (q : Nat) : Option Value := bif Nat.blt q 101 then some (.retAddr (200 + q)) else none
def mg_fC (q : Nat) : Option Value := bif Nat.blt q 101 then some (.int 0) else none
def mg_tS (q : Nat) : Option (Nat × (Nat → Int32)) := bif Nat.blt (q - 200) 101 && Nat.ble 200 q then some ((ms_byt (q - 200)).length, fun j => (ms_byt (q - 200)).getD j 0) else none
def mg_tI (q : Nat) : Option (Nat × (Nat → Int32)) := bif Nat.beq q 401 then some (48, fun j => ms_sgn.getD j 0) else none
def mg_tL (L : Nat) (xs : Nat → Int32) (q : Nat) : Option (Nat × (Nat → Int32)) := bif Nat.beq q 402 then some (L, xs) else none
theorem mg_pS {L : Nat} {xs : Nat → Int32} : ∀ sd A U H, (mg L xs).Ph sd A U H → ∀ q, mg_isS q = true → ∃ a, sd q = some a ∧ va_O "java/lang/String" a A U H := by
  intro sd A U H h q hq
  obtain ⟨a, v, q1, q2, q3, -⟩ := h.1 q (Nat.le_of_ble_eq_true hq)
  exact ⟨a, q1, q3⟩
theorem mg_pV {L : Nat} {xs : Nat → Int32} : ∀ sd A U H, (mg L xs).Ph sd A U H → ∀ q v, mg_fV q = some v → ∃ a, sd q = some a ∧ va_OF "java/lang/String" "value" "[B" (mv_v [] sd v) a A U H := by
  intro sd A U H h q v hv
  unfold mg_fV at hv
  cases hb : Nat.blt q 101 with
  | false => rw [hb] at hv; cases hv
  | true =>
    rw [hb, cond_true] at hv
    cases hv
    obtain ⟨a, v, q1, q2, q3, q4, q5, -⟩ := h.1 q (Nat.le_of_ble_eq_true hb)
    refine ⟨a, q1, ?_⟩
    simp only [mv_v, q2]
    exact q5
theorem mg_pC {L : Nat} {xs : Nat → Int32} : ∀ sd A U H, (mg L xs).Ph sd A U H → ∀ q v, mg_fC q = some v → ∃ a, sd q = some a ∧ va_OF "java/lang/String" "coder" "B" (mv_v [] sd v) a A U H := by
  intro sd A U H h q v hv
  unfold mg_fC at hv
  cases hb : Nat.blt q 101 with
  | false => rw [hb] at hv; cases hv
  | true =>
    rw [hb, cond_true] at hv
    cases hv
    obtain ⟨a, v, q1, q2, q3, q4, -⟩ := h.1 q (Nat.le_of_ble_eq_true hb)
    exact ⟨a, q1, q4⟩
theorem mg_vV : ∀ q v, mg_fV q = some v → ∀ as sd, mv_v as sd v = mv_v [] sd v := by
  intro q v hv as sd
  unfold mg_fV at hv
  have := mv_bif hv
  subst this
  rfl
theorem mg_vC : ∀ q v, mg_fC q = some v → ∀ as sd, mv_v as sd v = mv_v [] sd v := by
  intro q v hv as sd
  unfold mg_fC at hv
  have := mv_bif hv
  subst this
  rfl
theorem mg_pT {L : Nat} {xs : Nat → Int32} : ∀ sd A U H, (mg L xs).Ph sd A U H → ∀ q n a, mg_tS q = some (n, a) → ∃ t, sd q = some t ∧ va_T .byte t n (fun j => .int (a j)) A U H := by
  intro sd A U H h q n a hv
  unfold mg_tS at hv
  cases hb : (Nat.blt (q - 200) 101 && Nat.ble 200 q) with
  | false => rw [hb] at hv; cases hv
  | true =>
    rw [hb, cond_true] at hv
    obtain ⟨rfl, rfl⟩ := Prod.mk.inj (Option.some.inj hv)
    simp only [Bool.and_eq_true] at hb
    obtain ⟨a, v, q1, q2, q3, q4, q5, q6, -⟩ := h.1 (q - 200) (Nat.le_of_ble_eq_true hb.1)
    rw [Nat.add_sub_cancel' (Nat.le_of_ble_eq_true hb.2)] at q2
    exact ⟨v, q2, q6⟩
theorem mg_pI {L : Nat} {xs : Nat → Int32} : ∀ sd A U H, (mg L xs).Ph sd A U H → ∀ q n a, mg_tI q = some (n, a) → ∃ t, sd q = some t ∧ va_T .int t n (fun j => .int (a j)) A U H := by
  intro sd A U H h q n a hv
  unfold mg_tI at hv
  cases hb : Nat.beq q 401 with
  | false => rw [hb] at hv; cases hv
  | true =>
    rw [hb, cond_true] at hv
    cases hv
    have := Nat.eq_of_beq_eq_true hb
    subst this
    obtain ⟨-, -, -, ⟨t, q1, -, q2⟩, -⟩ := h
    exact ⟨t, q1, q2⟩
theorem mg_pL {L : Nat} {xs : Nat → Int32} : ∀ sd A U H, (mg L xs).Ph sd A U H → ∀ q n a, mg_tL L xs q = some (n, a) → ∃ t, sd q = some t ∧ va_T .int t n (fun j => .int (a j)) A U H := by
  intro sd A U H h q n a hv
  unfold mg_tL at hv
  cases hb : Nat.beq q 402 with
  | false => rw [hb] at hv; cases hv
  | true =>
    rw [hb, cond_true] at hv
    cases hv
    have := Nat.eq_of_beq_eq_true hb
    subst this
    obtain ⟨-, -, -, -, h5, -⟩ := h
    exact h5
theorem mg_pR {L : Nat} {xs : Nat → Int32} (i : Nat) (hi : i < 101) : ∀ sd A U H, (mg L xs).Ph sd A U H → ∃ a, sd i = some a ∧ vk_R (ms_own i) (ms_idx i) (ms_txt i) a U := by
  intro sd A U H h
  obtain ⟨a, v, q1, -, -, -, -, -, q7⟩ := h.1 i hi
  exact ⟨a, q1, q7⟩
theorem mg_pG {L : Nat} {xs : Nat → Int32} : ∀ sd A U H, (mg L xs).Ph sd A U H → va_Z "TokenScanner" "SIGN_NUMBERS" "[I" (mv_v [] sd (.retAddr 401)) A U H := by
  intro sd A U H h
  obtain ⟨-, -, -, ⟨t, q1, q2, -⟩, -⟩ := h
  simp only [mv_v, q1]
  exact q2
theorem mg_pF {L : Nat} {xs : Nat → Int32} : ∀ sd A U H, (mg L xs).Ph sd A U H → va_Z "jdk/internal/util/Preconditions" "SIOOBE_FORMATTER" "Ljava/util/function/BiFunction;" (mv_v [] sd (.retAddr 400)) A U H := fun _ _ _ _ h => h.2.2.1
theorem mg_pZ {L : Nat} {xs : Nat → Int32} : ∀ sd A U H, (mg L xs).Ph sd A U H → va_Z "java/lang/String" "COMPACT_STRINGS" "Z" (mv_v [] sd (.int 1)) A U H := fun _ _ _ _ h => h.2.1
theorem mg_pX {L : Nat} {xs : Nat → Int32} : ∀ sd A U H, (mg L xs).Ph sd A U H → mz_L Bundle.tN "UNASSIGNED_STACK" Bundle.steD A U H ∧ mz_L Bundle.tN "SUPPRESSED_SENTINEL" Bundle.listD A U H := fun _ _ _ _ h => h.2.2.2.2.2.1
theorem mg_pN0 {L : Nat} {xs : Nat → Int32} : ∀ sd A U H, (mg L xs).Ph sd A U H → va_Nc "java/lang/IllegalStateException" "java/lang/IllegalArgumentException" U := fun _ _ _ _ h => h.2.2.2.2.2.2.1
theorem mg_pN1 {L : Nat} {xs : Nat → Int32} : ∀ sd A U H, (mg L xs).Ph sd A U H → va_Nc "java/lang/IndexOutOfBoundsException" "java/lang/IllegalStateException" U := fun _ _ _ _ h => h.2.2.2.2.2.2.2
/-- tables of steps as trees -/
def mt_n (k : Nat) (a b : Nat → Option mv_S) : Nat → Option mv_S := fun pc => bif Nat.blt pc k then a pc else b pc
def mt_l (k : Nat) (s : mv_S) : Nat → Option mv_S := fun pc => bif Nat.beq pc k then some s else none
def mt_ok (g : mv_Gp) (y : Nat) (t : Nat → Option mv_S) : Prop := ∀ pc st, t pc = some st → mv_Snd g y pc st ∧ mv_Mn st
theorem mt_ok.n {g : mv_Gp} {y k : Nat} {a b : Nat → Option mv_S} (ha : mt_ok g y a) (hb : mt_ok g y b) : mt_ok g y (mt_n k a b) := by
  intro pc st e
  unfold mt_n at e
  cases hk : Nat.blt pc k with
  | true => rw [hk, cond_true] at e; exact ha pc st e
  | false => rw [hk, cond_false] at e; exact hb pc st e
theorem mt_ok.l {g : mv_Gp} {y k : Nat} {s : mv_S} (h : mv_Snd g y k s) (h2 : mv_Mn s) : mt_ok g y (mt_l k s) := by
  intro pc st e
  unfold mt_l at e
  cases hk : Nat.beq pc k with
  | true =>
    rw [hk, cond_true] at e
    cases e
    have := Nat.eq_of_beq_eq_true hk
    subst this
    exact ⟨h, h2⟩
  | false => rw [hk, cond_false] at e; cases e
end
section
set_option maxRecDepth 100000 in
theorem ha_56_0 : ∀ w ∈ Bundle.ownAtoms "TokenScanner" 56 "java/lang/IllegalArgumentException" ["java/lang/RuntimeException", "java/lang/Exception"], w ∈ mg_G ∨ w ∈ mz_hw := by decide +kernel
end
