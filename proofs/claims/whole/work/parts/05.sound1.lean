/-! THE STEPS ARE SOUND, instruction by instruction, by the kit's rows -/
def mv_row (cc : ByteArray) (pc pc' : Nat) (st st' : List Value) : Prop :=
  ∀ {p : Program} {l : Launch} {e : Env} {R : Room} {s : State} {m : MethodId} {args : Array Value} {below : List Frame} {meth : Method} {c : Code} {H : Heap} {locs : List Loc} {cells slots : Nat} {Q : State → Prop} {ls : Array Slot}, p.tables.exec = Jvm.exec → c.code = cc → W p l e R s m args below meth c H locs cells slots Q (F0 m pc' ls st') → W p l e R s m args below meth c H locs cells slots Q (F0 m pc ls st)
theorem mv_pure {g : mv_Gp} {y pc len : Nat} {t : List Value → Option (List Value)} (hrow : ∀ (as : List Nat) (sd : Nat → Option Nat) (st st' : List Value), t st = some st' → mv_row (g.M y).cc pc (pc + len) (st.map (mv_v as sd)) (st'.map (mv_v as sd))) : mv_Snd g y pc (mi_pure len t) := by
  intro x hX L stk h r e hr c1 c2 c3 c4 as H locs ls hw hl
  unfold mi_pure at e
  dsimp only at e
  cases ht : t stk with
  | none => rw [ht] at e; cases e
  | some st' =>
    rw [ht] at e
    cases e
    exact hrow as x.sd stk st' ht hX.1.1 hX.1.2.1 (hr.2.2 c1 c2 hr.1 hr.2.1 as H locs ls hw hl)
theorem mn_iconst {g : mv_Gp} {y pc : Nat} {n : Int} {v : Int32} (hd : decode (g.M y).cc pc = .ok (.iconst n, 1)) (hv : Int32.ofInt n = v) : mv_Snd g y pc (mi_pure 1 (mo_push (.int v))) := mv_pure fun _ _ st st' e => by
  cases e
  intro p l e R s m args below meth c H locs cells slots Q ls hx hb k
  exact lv_iconst hx hb hd hv k
theorem mn_bipush {g : mv_Gp} {y pc : Nat} {n : Int} {v : Int32} (hd : decode (g.M y).cc pc = .ok (.bipush n, 2)) (hv : (Int8.ofInt n).toInt32 = v) : mv_Snd g y pc (mi_pure 2 (mo_push (.int v))) := mv_pure fun _ _ st st' e => by
  cases e
  intro p l e R s m args below meth c H locs cells slots Q ls hx hb k
  exact lv_bipush hx hb hd hv k
theorem mn_sipush {g : mv_Gp} {y pc : Nat} {n : Int} {v : Int32} (hd : decode (g.M y).cc pc = .ok (.sipush n, 3)) (hv : (Int16.ofInt n).toInt32 = v) : mv_Snd g y pc (mi_pure 3 (mo_push (.int v))) := mv_pure fun _ _ st st' e => by
  cases e
  intro p l e R s m args below meth c H locs cells slots Q ls hx hb k
  exact lv_sipush hx hb hd hv k
theorem mn_lconst {g : mv_Gp} {y pc : Nat} {n : Fin 2} {v : Int64} (hd : decode (g.M y).cc pc = .ok (.lconst n, 1)) (hv : Int64.ofNat (n : Nat) = v) : mv_Snd g y pc (mi_pure 1 (mo_push (.long v))) := mv_pure fun _ _ st st' e => by
  cases e
  intro p l e R s m args below meth c H locs cells slots Q ls hx hb k
  exact lv_lconst hx hb hd hv k
theorem mn_iadd {g : mv_Gp} {y pc : Nat} (hd : decode (g.M y).cc pc = .ok (.iadd, 1)) : mv_Snd g y pc (mi_pure 1 (mo_ii (fun x y => x + y))) := mv_pure fun _ _ st st' e => by
  unfold mo_ii at e
  split at e
  · cases e
    intro p l e R s m args below meth c H locs cells slots Q ls hx hb k
    exact lv_iadd hx hb hd k
  · cases e
theorem mn_isub {g : mv_Gp} {y pc : Nat} (hd : decode (g.M y).cc pc = .ok (.isub, 1)) : mv_Snd g y pc (mi_pure 1 (mo_ii (fun x y => x - y))) := mv_pure fun _ _ st st' e => by
  unfold mo_ii at e
  split at e
  · cases e
    intro p l e R s m args below meth c H locs cells slots Q ls hx hb k
    exact lv_isub hx hb hd k
  · cases e
theorem mn_imul {g : mv_Gp} {y pc : Nat} (hd : decode (g.M y).cc pc = .ok (.imul, 1)) : mv_Snd g y pc (mi_pure 1 (mo_ii (fun x y => x * y))) := mv_pure fun _ _ st st' e => by
  unfold mo_ii at e
  split at e
  · cases e
    intro p l e R s m args below meth c H locs cells slots Q ls hx hb k
    exact lv_imul hx hb hd k
  · cases e
theorem mn_iand {g : mv_Gp} {y pc : Nat} (hd : decode (g.M y).cc pc = .ok (.iand, 1)) : mv_Snd g y pc (mi_pure 1 (mo_ii (fun x y => x &&& y))) := mv_pure fun _ _ st st' e => by
  unfold mo_ii at e
  split at e
  · cases e
    intro p l e R s m args below meth c H locs cells slots Q ls hx hb k
    exact lv_iand hx hb hd k
  · cases e
theorem mn_ior {g : mv_Gp} {y pc : Nat} (hd : decode (g.M y).cc pc = .ok (.ior, 1)) : mv_Snd g y pc (mi_pure 1 (mo_ii (fun x y => x ||| y))) := mv_pure fun _ _ st st' e => by
  unfold mo_ii at e
  split at e
  · cases e
    intro p l e R s m args below meth c H locs cells slots Q ls hx hb k
    exact lv_ior hx hb hd k
  · cases e
theorem mn_ixor {g : mv_Gp} {y pc : Nat} (hd : decode (g.M y).cc pc = .ok (.ixor, 1)) : mv_Snd g y pc (mi_pure 1 (mo_ii (fun x y => x ^^^ y))) := mv_pure fun _ _ st st' e => by
  unfold mo_ii at e
  split at e
  · cases e
    intro p l e R s m args below meth c H locs cells slots Q ls hx hb k
    exact lv_ixor hx hb hd k
  · cases e
theorem mn_ishl {g : mv_Gp} {y pc : Nat} (hd : decode (g.M y).cc pc = .ok (.ishl, 1)) : mv_Snd g y pc (mi_pure 1 (mo_ii (fun x y => x <<< (y &&& 31)))) := mv_pure fun _ _ st st' e => by
  unfold mo_ii at e
  split at e
  · cases e
    intro p l e R s m args below meth c H locs cells slots Q ls hx hb k
    exact lv_ishl hx hb hd k
  · cases e
theorem mn_ishr {g : mv_Gp} {y pc : Nat} (hd : decode (g.M y).cc pc = .ok (.ishr, 1)) : mv_Snd g y pc (mi_pure 1 (mo_ii (fun x y => x >>> (y &&& 31)))) := mv_pure fun _ _ st st' e => by
  unfold mo_ii at e
  split at e
  · cases e
    intro p l e R s m args below meth c H locs cells slots Q ls hx hb k
    exact lv_ishr hx hb hd k
  · cases e
theorem mn_iushr {g : mv_Gp} {y pc : Nat} (hd : decode (g.M y).cc pc = .ok (.iushr, 1)) : mv_Snd g y pc (mi_pure 1 (mo_ii (fun x y => (x.toUInt32 >>> (y.toUInt32 &&& Int32.toUInt32 31)).toInt32))) := mv_pure fun _ _ st st' e => by
  unfold mo_ii at e
  split at e
  · cases e
    intro p l e R s m args below meth c H locs cells slots Q ls hx hb k
    exact lv_iushr hx hb hd rfl k
  · cases e
theorem mn_ladd {g : mv_Gp} {y pc : Nat} (hd : decode (g.M y).cc pc = .ok (.ladd, 1)) : mv_Snd g y pc (mi_pure 1 (mo_ll (fun x y => x + y))) := mv_pure fun _ _ st st' e => by
  unfold mo_ll at e
  split at e
  · cases e
    intro p l e R s m args below meth c H locs cells slots Q ls hx hb k
    exact lv_ladd hx hb hd k
  · cases e
theorem mn_lsub {g : mv_Gp} {y pc : Nat} (hd : decode (g.M y).cc pc = .ok (.lsub, 1)) : mv_Snd g y pc (mi_pure 1 (mo_ll (fun x y => x - y))) := mv_pure fun _ _ st st' e => by
  unfold mo_ll at e
  split at e
  · cases e
    intro p l e R s m args below meth c H locs cells slots Q ls hx hb k
    exact lv_lsub hx hb hd k
  · cases e
theorem mn_lmul {g : mv_Gp} {y pc : Nat} (hd : decode (g.M y).cc pc = .ok (.lmul, 1)) : mv_Snd g y pc (mi_pure 1 (mo_ll (fun x y => x * y))) := mv_pure fun _ _ st st' e => by
  unfold mo_ll at e
  split at e
  · cases e
    intro p l e R s m args below meth c H locs cells slots Q ls hx hb k
    exact lv_lmul hx hb hd k
  · cases e
theorem mn_land {g : mv_Gp} {y pc : Nat} (hd : decode (g.M y).cc pc = .ok (.land, 1)) : mv_Snd g y pc (mi_pure 1 (mo_ll (fun x y => x &&& y))) := mv_pure fun _ _ st st' e => by
  unfold mo_ll at e
  split at e
  · cases e
    intro p l e R s m args below meth c H locs cells slots Q ls hx hb k
    exact lv_land hx hb hd k
  · cases e
theorem mn_lor {g : mv_Gp} {y pc : Nat} (hd : decode (g.M y).cc pc = .ok (.lor, 1)) : mv_Snd g y pc (mi_pure 1 (mo_ll (fun x y => x ||| y))) := mv_pure fun _ _ st st' e => by
  unfold mo_ll at e
  split at e
  · cases e
    intro p l e R s m args below meth c H locs cells slots Q ls hx hb k
    exact lv_lor hx hb hd k
  · cases e
theorem mn_lxor {g : mv_Gp} {y pc : Nat} (hd : decode (g.M y).cc pc = .ok (.lxor, 1)) : mv_Snd g y pc (mi_pure 1 (mo_ll (fun x y => x ^^^ y))) := mv_pure fun _ _ st st' e => by
  unfold mo_ll at e
  split at e
  · cases e
    intro p l e R s m args below meth c H locs cells slots Q ls hx hb k
    exact lv_lxor hx hb hd k
  · cases e
theorem mn_lushr {g : mv_Gp} {y pc : Nat} (hd : decode (g.M y).cc pc = .ok (.lushr, 1)) : mv_Snd g y pc (mi_pure 1 (mo_li (fun x y => (x.toUInt64 >>> (y.toInt64.toUInt64 &&& Int64.toUInt64 63)).toInt64))) := mv_pure fun _ _ st st' e => by
  unfold mo_li at e
  split at e
  · cases e
    intro p l e R s m args below meth c H locs cells slots Q ls hx hb k
    exact lv_lushr hx hb hd rfl k
  · cases e
theorem mn_lshl {g : mv_Gp} {y pc : Nat} (hd : decode (g.M y).cc pc = .ok (.lshl, 1)) : mv_Snd g y pc (mi_pure 1 (mo_li (fun x y => x <<< (y.toInt64 &&& 63)))) := mv_pure fun _ _ st st' e => by
  unfold mo_li at e
  split at e
  · cases e
    intro p l e R s m args below meth c H locs cells slots Q ls hx hb k
    exact lv_lshl hx hb hd rfl k
  · cases e
theorem mn_lshr {g : mv_Gp} {y pc : Nat} (hd : decode (g.M y).cc pc = .ok (.lshr, 1)) : mv_Snd g y pc (mi_pure 1 (mo_li (fun x y => x >>> (y.toInt64 &&& 63)))) := mv_pure fun _ _ st st' e => by
  unfold mo_li at e
  split at e
  · cases e
    intro p l e R s m args below meth c H locs cells slots Q ls hx hb k
    exact lv_lshr hx hb hd rfl k
  · cases e
theorem mn_lcmp {g : mv_Gp} {y pc : Nat} (hd : decode (g.M y).cc pc = .ok (.lcmp, 1)) : mv_Snd g y pc (mi_pure 1 (mo_lli lg_cmp)) := mv_pure fun _ _ st st' e => by
  unfold mo_lli at e
  split at e
  · cases e
    intro p l e R s m args below meth c H locs cells slots Q ls hx hb k
    exact W.lcmp hx hb hd k
  · cases e
theorem mn_ineg {g : mv_Gp} {y pc : Nat} (hd : decode (g.M y).cc pc = .ok (.ineg, 1)) : mv_Snd g y pc (mi_pure 1 (mo_i (fun x => -x))) := mv_pure fun _ _ st st' e => by
  unfold mo_i at e
  split at e
  · cases e
    intro p l e R s m args below meth c H locs cells slots Q ls hx hb k
    exact lv_ineg hx hb hd k
  · cases e
theorem mn_i2l {g : mv_Gp} {y pc : Nat} (hd : decode (g.M y).cc pc = .ok (.i2l, 1)) : mv_Snd g y pc (mi_pure 1 mo_i2l) := mv_pure fun _ _ st st' e => by
  unfold mo_i2l at e
  split at e
  · cases e
    intro p l e R s m args below meth c H locs cells slots Q ls hx hb k
    exact lv_i2l hx hb hd rfl k
  · cases e
theorem mn_l2i {g : mv_Gp} {y pc : Nat} (hd : decode (g.M y).cc pc = .ok (.l2i, 1)) : mv_Snd g y pc (mi_pure 1 mo_l2i) := mv_pure fun _ _ st st' e => by
  unfold mo_l2i at e
  split at e
  · cases e
    intro p l e R s m args below meth c H locs cells slots Q ls hx hb k
    exact lv_l2i hx hb hd rfl k
  · cases e
theorem mn_i2c {g : mv_Gp} {y pc : Nat} {op : Int32 → Int32} (hd : decode (g.M y).cc pc = .ok (.i2c, 1)) (ho : op = fun x => (x.toUInt32 % 65536).toInt32) : mv_Snd g y pc (mi_pure 1 (mo_i op)) := mv_pure fun _ _ st st' e => by
  unfold mo_i at e
  split at e
  · cases e
    intro p l e R s m args below meth c H locs cells slots Q ls hx hb k
    subst ho
    exact lv_i2c hx hb hd rfl k
  · cases e
theorem mn_dup {g : mv_Gp} {y pc : Nat} (hd : decode (g.M y).cc pc = .ok (.dup, 1)) : mv_Snd g y pc (mi_pure 1 mo_dup) := mv_pure fun _ _ st st' e => by
  unfold mo_dup at e
  split at e
  · cases e
    intro p l e R s m args below meth c H locs cells slots Q ls hx hb k
    exact lv_dup hx hb hd rfl k
  · cases e
    intro p l e R s m args below meth c H locs cells slots Q ls hx hb k
    exact lv_dup hx hb hd rfl k
  · cases e
theorem mn_dup_x1 {g : mv_Gp} {y pc : Nat} (hd : decode (g.M y).cc pc = .ok (.dup_x1, 1)) : mv_Snd g y pc (mi_pure 1 mo_dup_x1) := mv_pure fun _ _ st st' e => by
  unfold mo_dup_x1 at e
  split at e
  · cases e
    intro p l e R s m args below meth c H locs cells slots Q ls hx hb k
    exact lv_dup_x1 hx hb hd rfl rfl k
  · cases e
    intro p l e R s m args below meth c H locs cells slots Q ls hx hb k
    exact lv_dup_x1 hx hb hd rfl rfl k
  · cases e
theorem mn_dup2 {g : mv_Gp} {y pc : Nat} (hd : decode (g.M y).cc pc = .ok (.dup2, 1)) : mv_Snd g y pc (mi_pure 1 mo_dup2) := mv_pure fun _ _ st st' e => by
  unfold mo_dup2 at e
  split at e
  · cases e
    intro p l e R s m args below meth c H locs cells slots Q ls hx hb k
    exact lv_dup2_11 hx hb hd rfl rfl k
  · cases e
theorem mn_pop {g : mv_Gp} {y pc : Nat} (hd : decode (g.M y).cc pc = .ok (.pop, 1)) : mv_Snd g y pc (mi_pure 1 mo_pop) := mv_pure fun _ _ st st' e => by
  unfold mo_pop at e
  split at e
  · cases e
    intro p l e R s m args below meth c H locs cells slots Q ls hx hb k
    exact lv_pop hx hb hd rfl k
  · cases e
    intro p l e R s m args below meth c H locs cells slots Q ls hx hb k
    exact lv_pop hx hb hd rfl k
  · cases e
theorem mn_iload_n {g : mv_Gp} {y pc i : Nat} {k : Fin 4} (hd : decode (g.M y).cc pc = .ok (.iload_n k, 1)) (hi : (k : Nat) = i) : mv_Snd g y pc (mi_iload 1 i) := by
  intro x hX L stk h r e hr c1 c2 c3 c4 as H locs ls hw hl
  unfold mi_iload at e
  dsimp only at e
  split at e
  · rename_i v hv
    cases e
    exact lv_iload_n hX.1.1 hX.1.2.1 hd hi (hl.2.2.2 i _ hv) (hr.2.2 c1 c2 hr.1 hr.2.1 as H locs ls hw hl)
  · cases e
theorem mn_iload {g : mv_Gp} {y pc i : Nat}  (hd : decode (g.M y).cc pc = .ok (.iload i, 2)) : mv_Snd g y pc (mi_iload 2 i) := by
  intro x hX L stk h r e hr c1 c2 c3 c4 as H locs ls hw hl
  unfold mi_iload at e
  dsimp only at e
  split at e
  · rename_i v hv
    cases e
    exact lv_iload hX.1.1 hX.1.2.1 hd (hl.2.2.2 i _ hv) (hr.2.2 c1 c2 hr.1 hr.2.1 as H locs ls hw hl)
  · cases e
theorem mn_lload_n {g : mv_Gp} {y pc i : Nat} {k : Fin 4} (hd : decode (g.M y).cc pc = .ok (.lload_n k, 1)) (hi : (k : Nat) = i) : mv_Snd g y pc (mi_lload 1 i) := by
  intro x hX L stk h r e hr c1 c2 c3 c4 as H locs ls hw hl
  unfold mi_lload at e
  dsimp only at e
  split at e
  · rename_i v hv
    cases e
    exact lv_lload_n hX.1.1 hX.1.2.1 hd hi (hl.2.2.2 i _ hv) (hr.2.2 c1 c2 hr.1 hr.2.1 as H locs ls hw hl)
  · cases e
theorem mn_lload {g : mv_Gp} {y pc i : Nat}  (hd : decode (g.M y).cc pc = .ok (.lload i, 2)) : mv_Snd g y pc (mi_lload 2 i) := by
  intro x hX L stk h r e hr c1 c2 c3 c4 as H locs ls hw hl
  unfold mi_lload at e
  dsimp only at e
  split at e
  · rename_i v hv
    cases e
    exact lv_lload hX.1.1 hX.1.2.1 hd (hl.2.2.2 i _ hv) (hr.2.2 c1 c2 hr.1 hr.2.1 as H locs ls hw hl)
  · cases e
theorem mn_aload_n {g : mv_Gp} {y pc i : Nat} {k : Fin 4} (hd : decode (g.M y).cc pc = .ok (.aload_n k, 1)) (hi : (k : Nat) = i) : mv_Snd g y pc (mi_aload 1 i) := by
  intro x hX L stk h r e hr c1 c2 c3 c4 as H locs ls hw hl
  unfold mi_aload at e
  dsimp only at e
  split at e
  · rename_i v hv
    cases e
    exact lv_aload_n hX.1.1 hX.1.2.1 hd hi (hl.2.2.2 i _ hv) (hr.2.2 c1 c2 hr.1 hr.2.1 as H locs ls hw hl)
  · rename_i v hv
    cases e
    have hz := hl.2.2.2 i _ hv
    have kz := hr.2.2 c1 c2 hr.1 hr.2.1 as H locs ls hw hl
    simp only [mv_v, List.map_cons] at hz kz
    cases hs : x.sd v with
    | none =>
      rw [hs] at hz kz
      exact lv_aload_nN hX.1.1 hX.1.2.1 hd hi hz kz
    | some q =>
      rw [hs] at hz kz
      exact lv_aload_n hX.1.1 hX.1.2.1 hd hi hz kz
  · cases e
theorem mn_aload {g : mv_Gp} {y pc i : Nat}  (hd : decode (g.M y).cc pc = .ok (.aload i, 2)) : mv_Snd g y pc (mi_aload 2 i) := by
  intro x hX L stk h r e hr c1 c2 c3 c4 as H locs ls hw hl
  unfold mi_aload at e
  dsimp only at e
  split at e
  · rename_i v hv
    cases e
    exact lv_aload hX.1.1 hX.1.2.1 hd (hl.2.2.2 i _ hv) (hr.2.2 c1 c2 hr.1 hr.2.1 as H locs ls hw hl)
  · rename_i v hv
    cases e
    have hz := hl.2.2.2 i _ hv
    have kz := hr.2.2 c1 c2 hr.1 hr.2.1 as H locs ls hw hl
    simp only [mv_v, List.map_cons] at hz kz
    cases hs : x.sd v with
    | none =>
      rw [hs] at hz kz
      exact lv_aloadN hX.1.1 hX.1.2.1 hd hz kz
    | some q =>
      rw [hs] at hz kz
      exact lv_aload hX.1.1 hX.1.2.1 hd hz kz
  · cases e
theorem mn_istore_n {g : mv_Gp} {y pc i : Nat} {k : Fin 4} (hd : decode (g.M y).cc pc = .ok (.istore_n k, 1)) (hi : (k : Nat) = i) (hn : i < (g.M y).nL) : mv_Snd g y pc (mi_istore 1 i) := by
  intro x hX L stk h r e hr c1 c2 c3 c4 as H locs ls hw hl
  unfold mi_istore at e
  dsimp only at e
  split at e
  · rename_i v st
    cases e
    exact lv_istore_n hX.1.1 hX.1.2.1 hd hi hl.has hn rfl (fun ls' h' => hr.2.2 c1 c2 hr.1 hr.2.1 as H locs ls' hw (mv_L.st1 (v := .int v) hl.1 h'))
  · cases e
theorem mn_istore {g : mv_Gp} {y pc i : Nat}  (hd : decode (g.M y).cc pc = .ok (.istore i, 2)) (hn : i < (g.M y).nL) : mv_Snd g y pc (mi_istore 2 i) := by
  intro x hX L stk h r e hr c1 c2 c3 c4 as H locs ls hw hl
  unfold mi_istore at e
  dsimp only at e
  split at e
  · rename_i v st
    cases e
    exact lv_istore hX.1.1 hX.1.2.1 hd hl.has hn rfl (fun ls' h' => hr.2.2 c1 c2 hr.1 hr.2.1 as H locs ls' hw (mv_L.st1 (v := .int v) hl.1 h'))
  · cases e
theorem mn_lstore_n {g : mv_Gp} {y pc i : Nat} {k : Fin 4} (hd : decode (g.M y).cc pc = .ok (.lstore_n k, 1)) (hi : (k : Nat) = i) (hn : i + 1 < (g.M y).nL) : mv_Snd g y pc (mi_lstore 1 i) := by
  intro x hX L stk h r e hr c1 c2 c3 c4 as H locs ls hw hl
  unfold mi_lstore at e
  dsimp only at e
  split at e
  · rename_i v st
    cases e
    exact lv_lstore_n hX.1.1 hX.1.2.1 hd hi hl.has hn rfl (fun ls' h' => hr.2.2 c1 c2 hr.1 hr.2.1 as H locs ls' hw (mv_L.st2 (v := .long v) hl.1 h'))
  · cases e
theorem mn_lstore {g : mv_Gp} {y pc i : Nat}  (hd : decode (g.M y).cc pc = .ok (.lstore i, 2)) (hn : i + 1 < (g.M y).nL) : mv_Snd g y pc (mi_lstore 2 i) := by
  intro x hX L stk h r e hr c1 c2 c3 c4 as H locs ls hw hl
  unfold mi_lstore at e
  dsimp only at e
  split at e
  · rename_i v st
    cases e
    exact lv_lstore hX.1.1 hX.1.2.1 hd hl.has hn rfl (fun ls' h' => hr.2.2 c1 c2 hr.1 hr.2.1 as H locs ls' hw (mv_L.st2 (v := .long v) hl.1 h'))
  · cases e
theorem mn_astore_n {g : mv_Gp} {y pc i : Nat} {k : Fin 4} (hd : decode (g.M y).cc pc = .ok (.astore_n k, 1)) (hi : (k : Nat) = i) (hn : i < (g.M y).nL) : mv_Snd g y pc (mi_astore 1 i) := by
  intro x hX L stk h r e hr c1 c2 c3 c4 as H locs ls hw hl
  unfold mi_astore at e
  dsimp only at e
  split at e
  · rename_i v st
    cases e
    exact lv_astore_n hX.1.1 hX.1.2.1 hd hi hl.has hn rfl (fun ls' h' => hr.2.2 c1 c2 hr.1 hr.2.1 as H locs ls' hw (mv_L.st1 (v := .ref v) hl.1 h'))
  · rename_i v st
    cases e
    simp only [List.map_cons, mv_v]
    cases hs : x.sd v with
    | none => exact lv_astore_nN hX.1.1 hX.1.2.1 hd hi hl.has hn rfl (fun ls' h' => hr.2.2 c1 c2 hr.1 hr.2.1 as H locs ls' hw (mv_L.st1 (v := .retAddr v) hl.1 (by simp only [mv_v, hs]; exact h')))
    | some q => exact lv_astore_n hX.1.1 hX.1.2.1 hd hi hl.has hn rfl (fun ls' h' => hr.2.2 c1 c2 hr.1 hr.2.1 as H locs ls' hw (mv_L.st1 (v := .retAddr v) hl.1 (by simp only [mv_v, hs]; exact h')))
  · cases e
theorem mn_astore {g : mv_Gp} {y pc i : Nat}  (hd : decode (g.M y).cc pc = .ok (.astore i, 2)) (hn : i < (g.M y).nL) : mv_Snd g y pc (mi_astore 2 i) := by
  intro x hX L stk h r e hr c1 c2 c3 c4 as H locs ls hw hl
  unfold mi_astore at e
  dsimp only at e
  split at e
  · rename_i v st
    cases e
    exact lv_astore hX.1.1 hX.1.2.1 hd hl.has hn rfl (fun ls' h' => hr.2.2 c1 c2 hr.1 hr.2.1 as H locs ls' hw (mv_L.st1 (v := .ref v) hl.1 h'))
  · rename_i v st
    cases e
    simp only [List.map_cons, mv_v]
    cases hs : x.sd v with
    | none => exact lv_astoreN hX.1.1 hX.1.2.1 hd hl.has hn rfl (fun ls' h' => hr.2.2 c1 c2 hr.1 hr.2.1 as H locs ls' hw (mv_L.st1 (v := .retAddr v) hl.1 (by simp only [mv_v, hs]; exact h')))
    | some q => exact lv_astore hX.1.1 hX.1.2.1 hd hl.has hn rfl (fun ls' h' => hr.2.2 c1 c2 hr.1 hr.2.1 as H locs ls' hw (mv_L.st1 (v := .retAddr v) hl.1 (by simp only [mv_v, hs]; exact h')))
  · cases e
theorem mn_iinc {g : mv_Gp} {y pc i : Nat} {n : Int} {z : Int32} (hd : decode (g.M y).cc pc = .ok (.iinc i n, 3)) (hz : Int32.ofInt n = z) (hn : i < (g.M y).nL) : mv_Snd g y pc (mi_iinc i z) := by
  intro x hX L stk h r e hr c1 c2 c3 c4 as H locs ls hw hl
  unfold mi_iinc at e
  dsimp only at e
  split at e
  · rename_i v hv
    cases e
    obtain ⟨k, hk⟩ := List.getElem?_of_mem (mv_al_mem (as := as) (sd := x.sd) hv)
    subst hz
    exact lv_iinc hX.1.1 hX.1.2.1 hd hl.has hk rfl hn rfl (fun ls' h' => hr.2.2 c1 c2 hr.1 hr.2.1 as H locs ls' hw (mv_L.st1 (v := .int (v + Int32.ofInt n)) hl.1 h'))
  · cases e
theorem mn_goto {g : mv_Gp} {y pc tgt : Nat} {off : Int} (hd : decode (g.M y).cc pc = .ok (.goto off, 3)) (ht : (pc : Int) + off = (tgt : Int)) : mv_Snd g y pc (mi_goto tgt) := by
  intro x hX L stk h r e hr c1 c2 c3 c4 as H locs ls hw hl
  cases e
  exact lv_goto hX.1.1 hX.1.2.1 hd ht (hr.2.2 c1 c2 hr.1 hr.2.1 as H locs ls hw hl)
theorem mn_if_eq {g : mv_Gp} {y pc tgt : Nat} {off : Int} (hd : decode (g.M y).cc pc = .ok (.ifCond .eq off, 3)) (ht : (pc : Int) + off = (tgt : Int)) : mv_Snd g y pc (mi_if (fun x : Int32 => x = 0) tgt) := by
  intro x hX L stk h r e hr c1 c2 c3 c4 as H locs ls hw hl
  unfold mi_if at e
  dsimp only at e
  split at e
  · rename_i v st
    cases e
    obtain ⟨r1, r2, r3⟩ := hr
    exact lv_if_eq hX.1.1 hX.1.2.1 hd ht (fun hb => by rw [if_pos hb] at r3; exact r3 c1 c2 r1 r2 as H locs ls hw hl) (fun hb => by rw [if_neg hb] at r3; exact r3 c1 c2 r1 r2 as H locs ls hw hl)
  · cases e
theorem mn_if_ne {g : mv_Gp} {y pc tgt : Nat} {off : Int} (hd : decode (g.M y).cc pc = .ok (.ifCond .ne off, 3)) (ht : (pc : Int) + off = (tgt : Int)) : mv_Snd g y pc (mi_if (fun x : Int32 => ¬ x = 0) tgt) := by
  intro x hX L stk h r e hr c1 c2 c3 c4 as H locs ls hw hl
  unfold mi_if at e
  dsimp only at e
  split at e
  · rename_i v st
    cases e
    obtain ⟨r1, r2, r3⟩ := hr
    exact lv_if_ne hX.1.1 hX.1.2.1 hd ht (fun hb => by rw [if_pos hb] at r3; exact r3 c1 c2 r1 r2 as H locs ls hw hl) (fun hb => by rw [if_neg (not_not_intro hb)] at r3; exact r3 c1 c2 r1 r2 as H locs ls hw hl)
  · cases e
theorem mn_if_lt {g : mv_Gp} {y pc tgt : Nat} {off : Int} (hd : decode (g.M y).cc pc = .ok (.ifCond .lt off, 3)) (ht : (pc : Int) + off = (tgt : Int)) : mv_Snd g y pc (mi_if (fun x : Int32 => x < 0) tgt) := by
  intro x hX L stk h r e hr c1 c2 c3 c4 as H locs ls hw hl
  unfold mi_if at e
  dsimp only at e
  split at e
  · rename_i v st
    cases e
    obtain ⟨r1, r2, r3⟩ := hr
    exact lv_if_lt hX.1.1 hX.1.2.1 hd ht (fun hb => by rw [if_pos hb] at r3; exact r3 c1 c2 r1 r2 as H locs ls hw hl) (fun hb => by rw [if_neg hb] at r3; exact r3 c1 c2 r1 r2 as H locs ls hw hl)
  · cases e
theorem mn_if_ge {g : mv_Gp} {y pc tgt : Nat} {off : Int} (hd : decode (g.M y).cc pc = .ok (.ifCond .ge off, 3)) (ht : (pc : Int) + off = (tgt : Int)) : mv_Snd g y pc (mi_if (fun x : Int32 => 0 ≤ x) tgt) := by
  intro x hX L stk h r e hr c1 c2 c3 c4 as H locs ls hw hl
  unfold mi_if at e
  dsimp only at e
  split at e
  · rename_i v st
    cases e
    obtain ⟨r1, r2, r3⟩ := hr
    exact lv_if_ge hX.1.1 hX.1.2.1 hd ht (fun hb => by rw [if_pos hb] at r3; exact r3 c1 c2 r1 r2 as H locs ls hw hl) (fun hb => by rw [if_neg hb] at r3; exact r3 c1 c2 r1 r2 as H locs ls hw hl)
  · cases e
theorem mn_if_gt {g : mv_Gp} {y pc tgt : Nat} {off : Int} (hd : decode (g.M y).cc pc = .ok (.ifCond .gt off, 3)) (ht : (pc : Int) + off = (tgt : Int)) : mv_Snd g y pc (mi_if (fun x : Int32 => 0 < x) tgt) := by
  intro x hX L stk h r e hr c1 c2 c3 c4 as H locs ls hw hl
  unfold mi_if at e
  dsimp only at e
  split at e
  · rename_i v st
    cases e
    obtain ⟨r1, r2, r3⟩ := hr
    exact lv_if_gt hX.1.1 hX.1.2.1 hd ht (fun hb => by rw [if_pos hb] at r3; exact r3 c1 c2 r1 r2 as H locs ls hw hl) (fun hb => by rw [if_neg hb] at r3; exact r3 c1 c2 r1 r2 as H locs ls hw hl)
  · cases e
theorem mn_if_le {g : mv_Gp} {y pc tgt : Nat} {off : Int} (hd : decode (g.M y).cc pc = .ok (.ifCond .le off, 3)) (ht : (pc : Int) + off = (tgt : Int)) : mv_Snd g y pc (mi_if (fun x : Int32 => x ≤ 0) tgt) := by
  intro x hX L stk h r e hr c1 c2 c3 c4 as H locs ls hw hl
  unfold mi_if at e
  dsimp only at e
  split at e
  · rename_i v st
    cases e
    obtain ⟨r1, r2, r3⟩ := hr
    exact lv_if_le hX.1.1 hX.1.2.1 hd ht (fun hb => by rw [if_pos hb] at r3; exact r3 c1 c2 r1 r2 as H locs ls hw hl) (fun hb => by rw [if_neg hb] at r3; exact r3 c1 c2 r1 r2 as H locs ls hw hl)
  · cases e
theorem mn_icmp_eq {g : mv_Gp} {y pc tgt : Nat} {off : Int} (hd : decode (g.M y).cc pc = .ok (.if_icmp .eq off, 3)) (ht : (pc : Int) + off = (tgt : Int)) : mv_Snd g y pc (mi_icmp (fun x y : Int32 => x = y) tgt) := by
  intro x hX L stk h r e hr c1 c2 c3 c4 as H locs ls hw hl
  unfold mi_icmp at e
  dsimp only at e
  split at e
  · rename_i w v st
    cases e
    obtain ⟨r1, r2, r3⟩ := hr
    exact lv_icmp_eq hX.1.1 hX.1.2.1 hd ht (fun hb => by rw [if_pos hb] at r3; exact r3 c1 c2 r1 r2 as H locs ls hw hl) (fun hb => by rw [if_neg hb] at r3; exact r3 c1 c2 r1 r2 as H locs ls hw hl)
  · cases e
theorem mn_icmp_ne {g : mv_Gp} {y pc tgt : Nat} {off : Int} (hd : decode (g.M y).cc pc = .ok (.if_icmp .ne off, 3)) (ht : (pc : Int) + off = (tgt : Int)) : mv_Snd g y pc (mi_icmp (fun x y : Int32 => ¬ x = y) tgt) := by
  intro x hX L stk h r e hr c1 c2 c3 c4 as H locs ls hw hl
  unfold mi_icmp at e
  dsimp only at e
  split at e
  · rename_i w v st
    cases e
    obtain ⟨r1, r2, r3⟩ := hr
    exact lv_icmp_ne hX.1.1 hX.1.2.1 hd ht (fun hb => by rw [if_pos hb] at r3; exact r3 c1 c2 r1 r2 as H locs ls hw hl) (fun hb => by rw [if_neg (not_not_intro hb)] at r3; exact r3 c1 c2 r1 r2 as H locs ls hw hl)
  · cases e
theorem mn_icmp_lt {g : mv_Gp} {y pc tgt : Nat} {off : Int} (hd : decode (g.M y).cc pc = .ok (.if_icmp .lt off, 3)) (ht : (pc : Int) + off = (tgt : Int)) : mv_Snd g y pc (mi_icmp (fun x y : Int32 => x < y) tgt) := by
  intro x hX L stk h r e hr c1 c2 c3 c4 as H locs ls hw hl
  unfold mi_icmp at e
  dsimp only at e
  split at e
  · rename_i w v st
    cases e
    obtain ⟨r1, r2, r3⟩ := hr
    exact lv_icmp_lt hX.1.1 hX.1.2.1 hd ht (fun hb => by rw [if_pos hb] at r3; exact r3 c1 c2 r1 r2 as H locs ls hw hl) (fun hb => by rw [if_neg hb] at r3; exact r3 c1 c2 r1 r2 as H locs ls hw hl)
  · cases e
theorem mn_icmp_ge {g : mv_Gp} {y pc tgt : Nat} {off : Int} (hd : decode (g.M y).cc pc = .ok (.if_icmp .ge off, 3)) (ht : (pc : Int) + off = (tgt : Int)) : mv_Snd g y pc (mi_icmp (fun x y : Int32 => y ≤ x) tgt) := by
  intro x hX L stk h r e hr c1 c2 c3 c4 as H locs ls hw hl
  unfold mi_icmp at e
  dsimp only at e
  split at e
  · rename_i w v st
    cases e
    obtain ⟨r1, r2, r3⟩ := hr
    exact lv_icmp_ge hX.1.1 hX.1.2.1 hd ht (fun hb => by rw [if_pos hb] at r3; exact r3 c1 c2 r1 r2 as H locs ls hw hl) (fun hb => by rw [if_neg hb] at r3; exact r3 c1 c2 r1 r2 as H locs ls hw hl)
  · cases e
theorem mn_icmp_gt {g : mv_Gp} {y pc tgt : Nat} {off : Int} (hd : decode (g.M y).cc pc = .ok (.if_icmp .gt off, 3)) (ht : (pc : Int) + off = (tgt : Int)) : mv_Snd g y pc (mi_icmp (fun x y : Int32 => y < x) tgt) := by
  intro x hX L stk h r e hr c1 c2 c3 c4 as H locs ls hw hl
  unfold mi_icmp at e
  dsimp only at e
  split at e
  · rename_i w v st
    cases e
    obtain ⟨r1, r2, r3⟩ := hr
    exact lv_icmp_gt hX.1.1 hX.1.2.1 hd ht (fun hb => by rw [if_pos hb] at r3; exact r3 c1 c2 r1 r2 as H locs ls hw hl) (fun hb => by rw [if_neg hb] at r3; exact r3 c1 c2 r1 r2 as H locs ls hw hl)
  · cases e
theorem mn_icmp_le {g : mv_Gp} {y pc tgt : Nat} {off : Int} (hd : decode (g.M y).cc pc = .ok (.if_icmp .le off, 3)) (ht : (pc : Int) + off = (tgt : Int)) : mv_Snd g y pc (mi_icmp (fun x y : Int32 => x ≤ y) tgt) := by
  intro x hX L stk h r e hr c1 c2 c3 c4 as H locs ls hw hl
  unfold mi_icmp at e
  dsimp only at e
  split at e
  · rename_i w v st
    cases e
    obtain ⟨r1, r2, r3⟩ := hr
    exact lv_icmp_le hX.1.1 hX.1.2.1 hd ht (fun hb => by rw [if_pos hb] at r3; exact r3 c1 c2 r1 r2 as H locs ls hw hl) (fun hb => by rw [if_neg hb] at r3; exact r3 c1 c2 r1 r2 as H locs ls hw hl)
  · cases e
