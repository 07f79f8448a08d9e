/-! THE SMALL MACHINE: a method's run as a plain function. A cell is an array of a kind, or an object of a class; a reference is a PLACE in the list of cells ('.ref k'), or a thing that stands outside it and is never written ('.retAddr k'). -/
abbrev mv_C : Type := (Nat × vp_A) ⊕ (Nat × List Value)
abbrev mv_H : Type := List mv_C × Nat × Nat
abbrev mv_F : Type := Nat × List (Option Value) × List Value
abbrev mv_O : Type := Option Value ⊕ Nat
abbrev mv_R : Type := (mv_F × mv_H) ⊕ ((mv_O × mv_H) ⊕ (Nat × List Value × mv_F × mv_H))
abbrev mv_S : Type := mv_F → mv_H → Option mv_R
/-- a program: the step at a method's pc; a method's number of locals; where a method catches what is thrown at a pc: the pc behind the handler's first store, and the local that it stores to -/
abbrev mv_P : Type := (Nat → Nat → Option mv_S) × (Nat → Nat) × (Nat → Nat → Nat → Option (Option (Nat × Nat)))
def mv_lay : List Value → List (Option Value)
  | [] => []
  | v :: vs => some v :: (match v with
    | .long _ => none :: mv_lay vs
    | .double _ => none :: mv_lay vs
    | _ => mv_lay vs)
def mv_entry (n : Nat) (vs : List Value) : List (Option Value) := mv_lay vs ++ List.replicate (n - (mv_lay vs).length) none
def mv_wv (n : Nat) : Value → Bool
  | .ref q => Nat.blt q n
  | _ => true
def mv_wl (n : Nat) : List (Option Value) → Bool
  | [] => true
  | some v :: r => mv_wv n v && mv_wl n r
  | none :: r => mv_wl n r
def mv_ws (n : Nat) : List Value → Bool
  | [] => true
  | v :: r => mv_wv n v && mv_ws n r
/-- behind a call: nothing was made, or the frame knows old places alone -/
def mv_ok (h h' : mv_H) (f : mv_F) : Bool := Nat.beq h.1.length h'.1.length || (mv_wl h.1.length f.2.1 && mv_ws h.1.length f.2.2)
/-- a long that ends where a store begins is gone -/
def mv_cl (L : List (Option Value)) (i : Nat) : List (Option Value) :=
  match i with
  | 0 => L
  | j + 1 => match L[j]? with
    | some (some (.long _)) => L.set j none
    | some (some (.double _)) => L.set j none
    | _ => L
def mv_x (P : mv_P) : Nat → Nat → mv_F → mv_H → Option (mv_O × mv_H)
  | 0, _, _, _ => none
  | n + 1, y, f, h =>
    match P.1 y f.1 with
    | none => none
    | some s =>
      match s f h with
      | none => none
      | some (.inl (f', h')) => mv_x P n y f' h'
      | some (.inr (.inl r)) => some r
      | some (.inr (.inr (z, vs, f', h'))) =>
        match (bif Nat.ble (mv_lay vs).length (P.2.1 z) then mv_x P n z (0, mv_entry (P.2.1 z) vs, []) h' else none) with
        | none => none
        | some (.inl v, h'') => bif mv_ok h' h'' f' then mv_x P n y (f'.1, f'.2.1, v.toList ++ f'.2.2) h'' else none
        | some (.inr x, h'') =>
          match P.2.2 y f.1 x with
          | none => none
          | some none => some (.inr x, h'')
          | some (some (pc, i)) => bif mv_ok h' h'' f' then mv_x P n y (pc, (mv_cl f'.2.1 i).set i none, []) h'' else none
theorem mv_x_mono (P : mv_P) : ∀ (n : Nat) (y : Nat) (f : mv_F) (h : mv_H) (r : mv_O × mv_H), mv_x P n y f h = some r → mv_x P (n + 1) y f h = some r := by
  intro n
  induction n with
  | zero => intro y f h r hr; simp [mv_x] at hr
  | succ n ih =>
    intro y f h r hr
    rw [mv_x] at hr
    rw [mv_x]
    cases hp : P.1 y f.1 with
    | none => simp [hp] at hr
    | some s =>
      simp only [hp] at hr ⊢
      cases hs : s f h with
      | none => simp [hs] at hr
      | some q =>
        simp only [hs] at hr ⊢
        match q, hr with
        | .inl (f', h'), hr => exact ih _ _ _ _ hr
        | .inr (.inl r'), hr => exact hr
        | .inr (.inr (z, vs, f', h')), hr =>
          dsimp only at hr ⊢
          cases hbn : Nat.ble (mv_lay vs).length (P.2.1 z) with
          | false => rw [hbn] at hr; simp at hr
          | true =>
          rw [hbn, cond_true] at hr
          rw [cond_true]
          cases hz : mv_x P n z (0, mv_entry (P.2.1 z) vs, []) h' with
          | none => simp [hz] at hr
          | some u =>
            rw [hz] at hr
            rw [ih _ _ _ _ hz]
            match u, hr with
            | (.inl v, h''), hr =>
              dsimp only at hr ⊢
              cases hk : mv_ok h' h'' f' with
              | false => simp [hk] at hr
              | true =>
                simp only [hk, cond_true] at hr ⊢
                exact ih _ _ _ _ hr
            | (.inr x, h''), hr =>
              dsimp only at hr ⊢
              cases hX : P.2.2 y f.1 x with
              | none => simp [hX] at hr
              | some pi =>
                cases pi with
                | none => simp only [hX] at hr ⊢; exact hr
                | some pi =>
                obtain ⟨pc, i⟩ := pi
                simp only [hX] at hr ⊢
                cases hk : mv_ok h' h'' f' with
                | false => simp [hk] at hr
                | true =>
                  simp only [hk, cond_true] at hr ⊢
                  exact ih _ _ _ _ hr
theorem mv_x_le (P : mv_P) {n k : Nat} (hk : n ≤ k) {y : Nat} {f : mv_F} {h : mv_H} {r : mv_O × mv_H} (hr : mv_x P n y f h = some r) : mv_x P k y f h = some r := by
  induction hk with
  | refl => exact hr
  | step _ ih => exact mv_x_mono P _ _ _ _ _ ih
/-- it ends, so -/
def mv_E (P : mv_P) (y : Nat) (f : mv_F) (h : mv_H) (r : mv_O × mv_H) : Prop := ∃ n, mv_x P n y f h = some r
theorem mv_E.go {P : mv_P} {y : Nat} {f f' : mv_F} {h h' : mv_H} {r : mv_O × mv_H} {s : mv_S} (hp : P.1 y f.1 = some s) (hs : s f h = some (.inl (f', h'))) (k : mv_E P y f' h' r) : mv_E P y f h r := by
  obtain ⟨n, hn⟩ := k
  refine ⟨n + 1, ?_⟩
  rw [mv_x]
  simp only [hp, hs]
  exact hn
theorem mv_E.done {P : mv_P} {y : Nat} {f : mv_F} {h : mv_H} {r : mv_O × mv_H} {s : mv_S} (hp : P.1 y f.1 = some s) (hs : s f h = some (.inr (.inl r))) : mv_E P y f h r := by
  refine ⟨1, ?_⟩
  rw [mv_x]
  simp only [hp, hs]
theorem mv_E.call {P : mv_P} {y z : Nat} {f f' : mv_F} {h h' h'' : mv_H} {r : mv_O × mv_H} {s : mv_S} {vs : List Value} {v : Option Value} (hp : P.1 y f.1 = some s) (hs : s f h = some (.inr (.inr (z, vs, f', h')))) (hbn : Nat.ble (mv_lay vs).length (P.2.1 z) = true) (hz : mv_E P z (0, mv_entry (P.2.1 z) vs, []) h' (.inl v, h''))
    (ho : mv_ok h' h'' f' = true) (k : mv_E P y (f'.1, f'.2.1, v.toList ++ f'.2.2) h'' r) : mv_E P y f h r := by
  obtain ⟨n, hn⟩ := hz
  obtain ⟨n2, hn2⟩ := k
  refine ⟨max n n2 + 1, ?_⟩
  rw [mv_x]
  simp only [hp, hs, hbn, cond_true, mv_x_le P (Nat.le_max_left n n2) hn, ho, cond_true]
  exact mv_x_le P (Nat.le_max_right n n2) hn2
theorem mv_E.callX {P : mv_P} {y z x : Nat} {f f' : mv_F} {h h' h'' : mv_H} {s : mv_S} {vs : List Value} (hp : P.1 y f.1 = some s) (hs : s f h = some (.inr (.inr (z, vs, f', h')))) (hbn : Nat.ble (mv_lay vs).length (P.2.1 z) = true) (hz : mv_E P z (0, mv_entry (P.2.1 z) vs, []) h' (.inr x, h''))
    (hX : P.2.2 y f.1 x = some none) : mv_E P y f h (.inr x, h'') := by
  obtain ⟨n, hn⟩ := hz
  refine ⟨n + 1, ?_⟩
  rw [mv_x]
  simp only [hp, hs, hbn, cond_true, hn, hX]
theorem mv_E.callC {P : mv_P} {y z x pc i : Nat} {f f' : mv_F} {h h' h'' : mv_H} {r : mv_O × mv_H} {s : mv_S} {vs : List Value} (hp : P.1 y f.1 = some s) (hs : s f h = some (.inr (.inr (z, vs, f', h')))) (hbn : Nat.ble (mv_lay vs).length (P.2.1 z) = true) (hz : mv_E P z (0, mv_entry (P.2.1 z) vs, []) h' (.inr x, h''))
    (hX : P.2.2 y f.1 x = some (some (pc, i))) (ho : mv_ok h' h'' f' = true) (k : mv_E P y (pc, (mv_cl f'.2.1 i).set i none, []) h'' r) : mv_E P y f h r := by
  obtain ⟨n, hn⟩ := hz
  obtain ⟨n2, hn2⟩ := k
  refine ⟨max n n2 + 1, ?_⟩
  rw [mv_x]
  simp only [hp, hs, hbn, cond_true, mv_x_le P (Nat.le_max_left n n2) hn, hX, ho, cond_true]
  exact mv_x_le P (Nat.le_max_right n n2) hn2
/-- several steps that call nothing -/
def mv_run (P : mv_P) (y : Nat) : Nat → mv_F → mv_H → Option (mv_F × mv_H)
  | 0, f, h => some (f, h)
  | n + 1, f, h =>
    match P.1 y f.1 with
    | none => none
    | some s =>
      match s f h with
      | some (.inl (f', h')) => mv_run P y n f' h'
      | _ => none
theorem mv_E.run {P : mv_P} {y : Nat} (n : Nat) : ∀ {f f' : mv_F} {h h' : mv_H} {r : mv_O × mv_H}, mv_run P y n f h = some (f', h') → mv_E P y f' h' r → mv_E P y f h r := by
  induction n with
  | zero => intro f f' h h' r e k; simp only [mv_run, Option.some.injEq, Prod.mk.injEq] at e; rw [e.1, e.2]; exact k
  | succ n ih =>
    intro f f' h h' r e k
    rw [mv_run] at e
    cases hp : P.1 y f.1 with
    | none => simp [hp] at e
    | some s =>
      simp only [hp] at e
      cases hs : s f h with
      | none => simp [hs] at e
      | some q =>
        simp only [hs] at e
        match q, hs, e with
        | .inl (f1, h1), hs, e => exact mv_E.go hp hs (ih e k)
        | .inr q, _, e => cases q <;> simp at e
/-- a branch -/
theorem mv_E.br {P : mv_P} {y : Nat} {f f1 f2 : mv_F} {h h' : mv_H} {r : mv_O × mv_H} {s : mv_S} {b : Prop} [Decidable b] (hp : P.1 y f.1 = some s) (hs : s f h = some (.inl (if b then f1 else f2, h'))) (k1 : b → mv_E P y f1 h' r) (k2 : ¬ b → mv_E P y f2 h' r) : mv_E P y f h r := by
  refine mv_E.go hp hs ?_
  by_cases hb : b
  · rw [if_pos hb]; exact k1 hb
  · rw [if_neg hb]; exact k2 hb
