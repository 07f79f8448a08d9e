/-! THE SMALL MACHINE'S STEPS. 's_..': an instruction; 'n' in the middle: its length. -/
def mi_pure (len : Nat) (g : List Value → Option (List Value)) : mv_S := fun f h =>
  match g f.2.2 with
  | some st => some (.inl ((f.1 + len, f.2.1, st), h))
  | none => none
def mo_push (v : Value) : List Value → Option (List Value) := fun st => some (v :: st)
def mo_ii (op : Int32 → Int32 → Int32) : List Value → Option (List Value)
  | .int y :: .int x :: st => some (.int (op x y) :: st)
  | _ => none
def mo_ll (op : Int64 → Int64 → Int64) : List Value → Option (List Value)
  | .long y :: .long x :: st => some (.long (op x y) :: st)
  | _ => none
def mo_li (op : Int64 → Int32 → Int64) : List Value → Option (List Value)
  | .int y :: .long x :: st => some (.long (op x y) :: st)
  | _ => none
def mo_lli (op : Int64 → Int64 → Int32) : List Value → Option (List Value)
  | .long y :: .long x :: st => some (.int (op x y) :: st)
  | _ => none
def mo_i (op : Int32 → Int32) : List Value → Option (List Value)
  | .int x :: st => some (.int (op x) :: st)
  | _ => none
def mo_i2l : List Value → Option (List Value)
  | .int x :: st => some (.long x.toInt64 :: st)
  | _ => none
def mo_l2i : List Value → Option (List Value)
  | .long x :: st => some (.int x.toInt32 :: st)
  | _ => none
def mo_dup : List Value → Option (List Value)
  | .int x :: st => some (.int x :: .int x :: st)
  | .ref x :: st => some (.ref x :: .ref x :: st)
  | _ => none
def mo_dup_x1 : List Value → Option (List Value)
  | .int x :: .ref y :: st => some (.int x :: .ref y :: .int x :: st)
  | .int x :: .int y :: st => some (.int x :: .int y :: .int x :: st)
  | _ => none
def mo_dup2 : List Value → Option (List Value)
  | .int x :: .ref y :: st => some (.int x :: .ref y :: .int x :: .ref y :: st)
  | _ => none
def mo_pop : List Value → Option (List Value)
  | .int _ :: st => some st
  | .ref _ :: st => some st
  | _ => none
def mi_iload (len i : Nat) : mv_S := fun f h =>
  match f.2.1[i]? with
  | some (some (.int x)) => some (.inl ((f.1 + len, f.2.1, .int x :: f.2.2), h))
  | _ => none
def mi_lload (len i : Nat) : mv_S := fun f h =>
  match f.2.1[i]? with
  | some (some (.long x)) => some (.inl ((f.1 + len, f.2.1, .long x :: f.2.2), h))
  | _ => none
def mi_aload (len i : Nat) : mv_S := fun f h =>
  match f.2.1[i]? with
  | some (some (.ref x)) => some (.inl ((f.1 + len, f.2.1, .ref x :: f.2.2), h))
  | some (some (.retAddr x)) => some (.inl ((f.1 + len, f.2.1, .retAddr x :: f.2.2), h))
  | _ => none
def mv_st1 (L : List (Option Value)) (i : Nat) (v : Value) : List (Option Value) := (mv_cl L i).set i (some v)
def mv_st2 (L : List (Option Value)) (i : Nat) (v : Value) : List (Option Value) := ((mv_cl L i).set i (some v)).set (i + 1) none
def mi_istore (len i : Nat) : mv_S := fun f h =>
  match f.2.2 with
  | .int x :: st => some (.inl ((f.1 + len, mv_st1 f.2.1 i (.int x), st), h))
  | _ => none
def mi_lstore (len i : Nat) : mv_S := fun f h =>
  match f.2.2 with
  | .long x :: st => some (.inl ((f.1 + len, mv_st2 f.2.1 i (.long x), st), h))
  | _ => none
def mi_astore (len i : Nat) : mv_S := fun f h =>
  match f.2.2 with
  | .ref x :: st => some (.inl ((f.1 + len, mv_st1 f.2.1 i (.ref x), st), h))
  | .retAddr x :: st => some (.inl ((f.1 + len, mv_st1 f.2.1 i (.retAddr x), st), h))
  | _ => none
def mi_iinc (i : Nat) (n : Int32) : mv_S := fun f h =>
  match f.2.1[i]? with
  | some (some (.int x)) => some (.inl ((f.1 + 3, mv_st1 f.2.1 i (.int (x + n)), f.2.2), h))
  | _ => none
def mi_goto (tgt : Nat) : mv_S := fun f h => some (.inl ((tgt, f.2.1, f.2.2), h))
def mi_if (b : Int32 → Prop) [DecidablePred b] (tgt : Nat) : mv_S := fun f h =>
  match f.2.2 with
  | .int x :: st => some (.inl (if b x then (tgt, f.2.1, st) else (f.1 + 3, f.2.1, st), h))
  | _ => none
def mi_icmp (b : Int32 → Int32 → Prop) [∀ x y, Decidable (b x y)] (tgt : Nat) : mv_S := fun f h =>
  match f.2.2 with
  | .int y :: .int x :: st => some (.inl (if b x y then (tgt, f.2.1, st) else (f.1 + 3, f.2.1, st), h))
  | _ => none
/-- a switch: the targets of the keys, and the other one -/
def mv_sw (x : Int32) (d : Nat) : List (Int32 × Nat) → Nat
  | [] => d
  | (k, t) :: r => if x = k then t else mv_sw x d r
def mi_sw (ks : List (Int32 × Nat)) (d : Nat) : mv_S := fun f h =>
  match f.2.2 with
  | .int x :: st => some (.inl ((mv_sw x d ks, f.2.1, st), h))
  | _ => none
def mi_iret : mv_S := fun f h =>
  match f.2.2 with
  | [.int x] => some (.inr (.inl (.inl (some (.int x)), h)))
  | _ => none
def mi_zret : mv_S := fun f h =>
  match f.2.2 with
  | [.int x] => if x = 0 ∨ x = 1 then some (.inr (.inl (.inl (some (.int x)), h))) else none
  | _ => none
def mi_vret : mv_S := fun f h =>
  match f.2.2 with
  | [] => some (.inr (.inl (.inl none, h)))
  | _ => none
def mi_aret : mv_S := fun f h =>
  match f.2.2 with
  | [.ref x] => some (.inr (.inl (.inl (some (.ref x)), h)))
  | [.retAddr x] => some (.inr (.inl (.inl (some (.retAddr x)), h)))
  | _ => none
def mi_get (ci k : Nat) : mv_S := fun f h =>
  match f.2.2 with
  | .ref q :: st => match h.1[q]? with
    | some (.inr (cj, fs)) => bif Nat.beq cj ci then (match fs[k]? with
      | some v => some (.inl ((f.1 + 3, f.2.1, v :: st), h))
      | none => none) else none
    | _ => none
  | _ => none
/-- is it a value that such a field takes as it is? -/
def mv_fit (ty : FieldType) (v : Value) : Bool :=
  match ty, v with
  | .int, .int _ => true
  | .long, .long _ => true
  | .boolean, .int x => decide (x = 0) || decide (x = 1)
  | .object _, .ref _ => true
  | .object _, .retAddr _ => true
  | .array _, .ref _ => true
  | _, _ => false
def mi_put (ci k : Nat) (ty : FieldType) : mv_S := fun f h =>
  match f.2.2 with
  | v :: .ref q :: st => match h.1[q]? with
    | some (.inr (cj, fs)) => bif Nat.beq cj ci && mv_fit ty v && Nat.blt k fs.length then some (.inl ((f.1 + 3, f.2.1, st), (h.1.set q (.inr (ci, fs.set k v)), h.2.1, h.2.2))) else none
    | _ => none
  | _ => none
/-- is it a place of an array? -/
def mv_in (i : Int32) (n : Nat) : Bool := !(decide (i < 0)) && decide (i.toNatClampNeg < n)
def mi_iald : mv_S := fun f h =>
  match f.2.2 with
  | .int i :: .ref q :: st => match h.1[q]? with
    | some (.inl (0, n, .inl a)) => if mv_in i n = true then some (.inl ((f.1 + 1, f.2.1, .int (a i.toNatClampNeg) :: st), h)) else none
    | _ => none
  | _ => none
def mi_iast : mv_S := fun f h =>
  match f.2.2 with
  | .int x :: .int i :: .ref q :: st => match h.1[q]? with
    | some (.inl (0, n, .inl a)) => if mv_in i n = true then some (.inl ((f.1 + 1, f.2.1, st), (h.1.set q (.inl (0, n, .inl (upd a i.toNatClampNeg x))), h.2.1, h.2.2))) else none
    | _ => none
  | _ => none
def mi_lald : mv_S := fun f h =>
  match f.2.2 with
  | .int i :: .ref q :: st => match h.1[q]? with
    | some (.inl (1, n, .inr (.inl a))) => if mv_in i n = true then some (.inl ((f.1 + 1, f.2.1, .long (a i.toNatClampNeg) :: st), h)) else none
    | _ => none
  | _ => none
def mi_last : mv_S := fun f h =>
  match f.2.2 with
  | .long x :: .int i :: .ref q :: st => match h.1[q]? with
    | some (.inl (1, n, .inr (.inl a))) => if mv_in i n = true then some (.inl ((f.1 + 1, f.2.1, st), (h.1.set q (.inl (1, n, .inr (.inl (vp_updL a i.toNatClampNeg x)))), h.2.1, h.2.2))) else none
    | _ => none
  | _ => none
def mi_alen (t : Nat) : mv_S := fun f h =>
  match f.2.2 with
  | .ref q :: st => match h.1[q]? with
    | some (.inl (t9, n, _)) => bif Nat.beq t9 t then some (.inl ((f.1 + 1, f.2.1, .int (Int32.ofNat n) :: st), h)) else none
    | _ => none
  | _ => none
def mv_wc (n : Nat) : mv_C → Bool
  | .inl _ => true
  | .inr o => mv_ws n o.2
def mv_wh (n : Nat) : List mv_C → Bool
  | [] => true
  | x :: r => mv_wc n x && mv_wh n r
def mv_all (f : mv_F) (h : mv_H) : Bool := mv_wl h.1.length f.2.1 && mv_ws h.1.length f.2.2 && mv_wh h.1.length h.1
def mi_new (ci : Nat) (fs : List Value) : mv_S := fun f h =>
  bif mv_all f h then some (.inl ((f.1 + 3, f.2.1, .ref h.1.length :: f.2.2), (h.1 ++ [.inr (ci, fs)], h.2.1 + 1, h.2.2 + fs.length))) else none
def mi_newa (t : Nat) (z : (Nat → Int32) ⊕ (Nat → Int64) ⊕ (Nat → UInt32) ⊕ (Nat → UInt64) ⊕ (Nat → Option Nat)) : mv_S := fun f h =>
  match f.2.2 with
  | .int n :: st => bif mv_all f h && !(decide (n < 0)) && decide (n.toNatClampNeg ≤ 1000000) then some (.inl ((f.1 + 2, f.2.1, .ref h.1.length :: st), (h.1 ++ [.inl (t, n.toNatClampNeg, z)], h.2.1 + 1, h.2.2 + n.toNatClampNeg))) else none
  | _ => none
def mv_cat : List Value → Nat
  | [] => 0
  | v :: r => v.category + mv_cat r
/-- a call: n values on the stack (the receiver among them) go to method z; the receiver is an object of class ci -/
def mi_callV (ci z n : Nat) : mv_S := fun f h =>
  match (f.2.2.take n).reverse with
  | .ref q :: vs => match h.1[q]? with
    | some (.inr (cj, _)) => bif Nat.beq cj ci && Nat.ble n f.2.2.length && Nat.ble (mv_cat (f.2.2.drop n)) 8 then some (.inr (.inr (z, .ref q :: vs, (f.1 + 3, f.2.1, f.2.2.drop n), h))) else none
    | _ => none
  | _ => none
/-- .. the receiver is a new object -/
def mi_callI (z n : Nat) : mv_S := fun f h =>
  match (f.2.2.take n).reverse with
  | .ref q :: vs => bif Nat.ble n f.2.2.length && Nat.ble (mv_cat (f.2.2.drop n)) 8 then some (.inr (.inr (z, .ref q :: vs, (f.1 + 3, f.2.1, f.2.2.drop n), h))) else none
  | _ => none
/-- .. the receiver stands outside -/
def mi_callK (b : Nat → Bool) (z n : Nat) : mv_S := fun f h =>
  match (f.2.2.take n).reverse with
  | .retAddr q :: vs => bif b q && Nat.ble n f.2.2.length && Nat.ble (mv_cat (f.2.2.drop n)) 8 then some (.inr (.inr (z, .retAddr q :: vs, (f.1 + 3, f.2.1, f.2.2.drop n), h))) else none
  | _ => none
/-- .. no receiver -/
def mi_callS (z n : Nat) : mv_S := fun f h => bif Nat.ble n f.2.2.length && Nat.ble (mv_cat (f.2.2.drop n)) 8 then some (.inr (.inr (z, (f.2.2.take n).reverse, (f.1 + 3, f.2.1, f.2.2.drop n), h))) else none
/-- 'throw new E("..")', from its new on -/
def mi_throw (k : Nat) : mv_S := fun f h =>
  match f.2.2 with
  | [] => some (.inr (.inl (.inr k, (h.1, h.2.1 + 1, h.2.2 + 6))))
  | _ => none
/-- Object's constructor -/
def mi_obj : mv_S := fun f h =>
  match f.2.2 with
  | .ref _ :: st => match st with
    | [] => some (.inl ((f.1 + 3, f.2.1, []), h))
    | _ => none
  | _ => none
