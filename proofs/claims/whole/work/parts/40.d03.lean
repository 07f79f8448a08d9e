def b_56_103 (k_18 : CS → Int32 → Option (Int32 × CS)) (C : CS) (l1 : Int32) : Option (Int32 × CS) := k_18 C l1
theorem tb_56_103 (L : Nat) (xs : Nat → Int32) (M : CS) (o : Nat → Int64) (c s : Nat) (C : CS) (k_18 : CS → Int32 → Option (Int32 × CS)) (hk_18 : ∀ (C : CS) (l1 : Int32) (d2 : Option Int32) (ret : Int32 × CS), k_18 C l1 = some ret → mv_E (mp L xs) 56 (18, [some (.ref 5), some (.int l1), d2.map .int], []) (HPf C M o, c, s) ((.inl (some (.int ret.1)), (HPf ret.2 M o, c, s)))) (l1 : Int32) (d2 : Option Int32) (ret : Int32 × CS) (h : b_56_103 k_18 C l1 = some ret) : mv_E (mp L xs) 56 (103, [some (.ref 5), some (.int l1), d2.map .int], []) (HPf C M o, c, s) ((.inl (some (.int ret.1)), (HPf ret.2 M o, c, s))) := by
  unfold b_56_103 at h
  refine mv_E.rT (t := mt_56) rfl 1 (f' := (18, [some (.ref 5), some (.int l1), d2.map .int], [])) (h' := (HPf C M o, c, s)) rfl ?_
  exact hk_18 C l1 d2 _ h
def b_56_18 : Nat → CS → Int32 → Option (Int32 × CS)
  | 0, _, _ => none
  | n + 1, C, l1 => (if (f_19 C) ≤ (C.1 11) then (f_32 C (C.1 11)).bind fun r372 => if r372.1 = 0 ∨ r372.1 = 1 then some (r372.1, r372.2) else none else (f_28 C (C.1 11)).bind fun r375 => (if (f_30 r375) = 0 then (if ¬ r375 = l1 then (if r375 = 92 then (f_55 (ru (C.1) 11 (((C.1 11) + 1)), C.2)).bind fun r442 => (if ¬ r442.1 = 0 then b_56_103 (b_56_18 n) r442.2 l1 else some (0, r442.2)) else (f_40 (ru (C.1) 11 (((C.1 11) + 1)), C.2) r375).bind fun r445 => b_56_103 (b_56_18 n) r445 l1) else some (1, (ru (C.1) 11 (((C.1 11) + 1)), C.2))) else (f_32 C (C.1 11)).bind fun r449 => if r449.1 = 0 ∨ r449.1 = 1 then some (r449.1, r449.2) else none))
theorem tb_56_18 (L : Nat) (xs : Nat → Int32) (M : CS) (o : Nat → Int64) (c s : Nat) : ∀ (n : Nat) (C : CS) (l1 : Int32) (d2 : Option Int32) (ret : Int32 × CS), b_56_18 n C l1 = some ret → mv_E (mp L xs) 56 (18, [some (.ref 5), some (.int l1), d2.map .int], []) (HPf C M o, c, s) ((.inl (some (.int ret.1)), (HPf ret.2 M o, c, s))) := by
  intro n
  induction n with
  | zero => intro C l1 d2 ret h; rw [b_56_18] at h; cases h
  | succ n ih =>
    intro C l1 d2 ret h
    rw [b_56_18] at h
    refine mv_E.rT (t := mt_56) rfl 4 (f' := (26, [some (.ref 5), some (.int l1), d2.map .int], [.ref 1, .int (C.1 11)])) (h' := (HPf C M o, c, s)) rfl ?_
    refine mv_E.call (z := 19) (vs := [.ref 1]) (f' := (29, [some (.ref 5), some (.int l1), d2.map .int], [.int (C.1 11)])) (h' := (HPf C M o, c, s)) rfl rfl rfl (t_19 L xs rfl) (mv_okl rfl) ?_
    show mv_E (mp L xs) 56 (29, [some (.ref 5), some (.int l1), d2.map .int], [.int (f_19 C), .int (C.1 11)]) (HPf C M o, c, s) _
    by_cases hc470 : (f_19 C) ≤ (C.1 11)
    · replace h := (if_pos hc470).symm.trans h
      refine mv_E.go rfl (mi_icmp_pos hc470) ?_
      refine mv_E.rT (t := mt_56) rfl 3 (f' := (111, [some (.ref 5), some (.int l1), d2.map .int], [.int (C.1 11), .ref 5])) (h' := (HPf C M o, c, s)) rfl ?_
      obtain ⟨r454, hr455, h⟩ := Option.bind_eq_some_iff.mp h
      refine mv_E.call (z := 32) (vs := [.ref 5, .int (C.1 11)]) (f' := (114, [some (.ref 5), some (.int l1), d2.map .int], [])) (h' := (HPf C M o, c, s)) rfl rfl rfl (t_32 L xs hr455) (mv_okl rfl) ?_
      show mv_E (mp L xs) 56 (114, [some (.ref 5), some (.int l1), d2.map .int], [.int r454.1]) (HPf r454.2 M o, c, s) _
      by_cases hz456 : r454.1 = 0 ∨ r454.1 = 1
      rotate_left
      · cases (if_neg hz456).symm.trans h
      replace h := (if_pos hz456).symm.trans h
      cases h
      exact mv_E.done rfl (mi_zret_at hz456)
    replace h := (if_neg hc470).symm.trans h
    refine mv_E.go rfl (mi_icmp_neg hc470) ?_
    refine mv_E.rT (t := mt_56) rfl 4 (f' := (40, [some (.ref 5), some (.int l1), d2.map .int], [.int (C.1 11), .ref 1])) (h' := (HPf C M o, c, s)) rfl ?_
    obtain ⟨r457, hr458, h⟩ := Option.bind_eq_some_iff.mp h
    refine mv_E.call (z := 28) (vs := [.ref 1, .int (C.1 11)]) (f' := (43, [some (.ref 5), some (.int l1), d2.map .int], [])) (h' := (HPf C M o, c, s)) rfl rfl rfl (t_28 L xs hr458) (mv_okl rfl) ?_
    refine mv_E.rT (t := mt_56) rfl 2 (f' := (45, [some (.ref 5), some (.int l1), some (.int r457)], [.int r457])) (h' := (HPf C M o, c, s)) rfl ?_
    refine mv_E.call (z := 30) (vs := [.int r457]) (f' := (48, [some (.ref 5), some (.int l1), some (.int r457)], [])) (h' := (HPf C M o, c, s)) rfl rfl rfl (t_30 L xs rfl) (mv_okl rfl) ?_
    show mv_E (mp L xs) 56 (48, [some (.ref 5), some (.int l1), some (.int r457)], [.int (f_30 r457)]) (HPf C M o, c, s) _
    by_cases hc469 : (f_30 r457) = 0
    · replace h := (if_pos hc469).symm.trans h
      refine mv_E.go rfl (mi_if_pos hc469) ?_
      refine mv_E.rT (t := mt_56) rfl 8 (f' := (72, [some (.ref 5), some (.int l1), some (.int r457)], [.int l1, .int r457])) (h' := (HPf (ru (C.1) 11 (((C.1 11) + 1)), C.2) M o, c, s)) rfl ?_
      by_cases hc465 : ¬ r457 = l1
      · replace h := (if_pos hc465).symm.trans h
        refine mv_E.go rfl (mi_icmp_pos hc465) ?_
        refine mv_E.rT (t := mt_56) rfl 2 (f' := (80, [some (.ref 5), some (.int l1), some (.int r457)], [.int 92, .int r457])) (h' := (HPf (ru (C.1) 11 (((C.1 11) + 1)), C.2) M o, c, s)) rfl ?_
        by_cases hc464 : r457 = 92
        · replace h := (if_pos hc464).symm.trans h
          refine mv_E.go rfl (mi_icmp_pos hc464) ?_
          refine mv_E.rT (t := mt_56) rfl 1 (f' := (95, [some (.ref 5), some (.int l1), some (.int r457)], [.ref 5])) (h' := (HPf (ru (C.1) 11 (((C.1 11) + 1)), C.2) M o, c, s)) rfl ?_
          obtain ⟨r459, hr460, h⟩ := Option.bind_eq_some_iff.mp h
          refine mv_E.call (z := 55) (vs := [.ref 5]) (f' := (98, [some (.ref 5), some (.int l1), some (.int r457)], [])) (h' := (HPf (ru (C.1) 11 (((C.1 11) + 1)), C.2) M o, c, s)) rfl rfl rfl (t_55 L xs hr460) (mv_okl rfl) ?_
          show mv_E (mp L xs) 56 (98, [some (.ref 5), some (.int l1), some (.int r457)], [.int r459.1]) (HPf r459.2 M o, c, s) _
          by_cases hc461 : ¬ r459.1 = 0
          · replace h := (if_pos hc461).symm.trans h
            refine mv_E.go rfl (mi_if_pos hc461) ?_
            show mv_E (mp L xs) 56 (103, [some (.ref 5), some (.int l1), some (.int r457)], []) (HPf r459.2 M o, c, s) _
            exact tb_56_103 L xs M o c s r459.2 (b_56_18 n) ih l1 (some r457) _ h
          replace h := (if_neg hc461).symm.trans h
          refine mv_E.go rfl (mi_if_neg hc461) ?_
          refine mv_E.rT (t := mt_56) rfl 1 (f' := (102, [some (.ref 5), some (.int l1), some (.int r457)], [.int 0])) (h' := (HPf r459.2 M o, c, s)) rfl ?_
          cases h
          exact mv_E.done rfl mi_zret0
        replace h := (if_neg hc464).symm.trans h
        refine mv_E.go rfl (mi_icmp_neg hc464) ?_
        refine mv_E.rT (t := mt_56) rfl 3 (f' := (88, [some (.ref 5), some (.int l1), some (.int r457)], [.int r457, .ref 3])) (h' := (HPf (ru (C.1) 11 (((C.1 11) + 1)), C.2) M o, c, s)) rfl ?_
        obtain ⟨r462, hr463, h⟩ := Option.bind_eq_some_iff.mp h
        refine mv_E.call (z := 40) (vs := [.ref 3, .int r457]) (f' := (91, [some (.ref 5), some (.int l1), some (.int r457)], [])) (h' := (HPf (ru (C.1) 11 (((C.1 11) + 1)), C.2) M o, c, s)) rfl rfl rfl (t_40 L xs hr463) (mv_okl rfl) ?_
        refine mv_E.rT (t := mt_56) rfl 1 (f' := (103, [some (.ref 5), some (.int l1), some (.int r457)], [])) (h' := (HPf r462 M o, c, s)) rfl ?_
        exact tb_56_103 L xs M o c s r462 (b_56_18 n) ih l1 (some r457) _ h
      replace h := (if_neg hc465).symm.trans h
      refine mv_E.go rfl (mi_icmp_neg hc465) ?_
      refine mv_E.rT (t := mt_56) rfl 1 (f' := (76, [some (.ref 5), some (.int l1), some (.int r457)], [.int 1])) (h' := (HPf (ru (C.1) 11 (((C.1 11) + 1)), C.2) M o, c, s)) rfl ?_
      cases h
      exact mv_E.done rfl mi_zret1
    replace h := (if_neg hc469).symm.trans h
    refine mv_E.go rfl (mi_if_neg hc469) ?_
    refine mv_E.rT (t := mt_56) rfl 3 (f' := (56, [some (.ref 5), some (.int l1), some (.int r457)], [.int (C.1 11), .ref 5])) (h' := (HPf C M o, c, s)) rfl ?_
    obtain ⟨r466, hr467, h⟩ := Option.bind_eq_some_iff.mp h
    refine mv_E.call (z := 32) (vs := [.ref 5, .int (C.1 11)]) (f' := (59, [some (.ref 5), some (.int l1), some (.int r457)], [])) (h' := (HPf C M o, c, s)) rfl rfl rfl (t_32 L xs hr467) (mv_okl rfl) ?_
    show mv_E (mp L xs) 56 (59, [some (.ref 5), some (.int l1), some (.int r457)], [.int r466.1]) (HPf r466.2 M o, c, s) _
    by_cases hz468 : r466.1 = 0 ∨ r466.1 = 1
    rotate_left
    · cases (if_neg hz468).symm.trans h
    replace h := (if_pos hz468).symm.trans h
    cases h
    exact mv_E.done rfl (mi_zret_at hz468)
def f_56 (C : CS) (p0 : Int32) : Option (Int32 × CS) := b_56_18 fu (ru (ru (C.1) 3 (3)) 11 (((C.1 11) + 1)), C.2) p0
theorem t_56 (L : Nat) (xs : Nat → Int32) {C M : CS} {o : Nat → Int64} {c s : Nat} {p0 : Int32} {ret : Int32 × CS} (h : f_56 C p0 = some ret) : mv_E (mp L xs) 56 (0, [some (.ref 5), some (.int p0), none], []) (HPf C M o, c, s) ((.inl (some (.int ret.1)), (HPf ret.2 M o, c, s))) := by
  unfold f_56 at h
  refine mv_E.rT (t := mt_56) rfl 10 (f' := (18, [some (.ref 5), some (.int p0), none], [])) (h' := (HPf (ru (ru (C.1) 3 (3)) 11 (((C.1 11) + 1)), C.2) M o, c, s)) rfl ?_
  exact tb_56_18 L xs M o c s fu (ru (ru (C.1) 3 (3)) 11 (((C.1 11) + 1)), C.2) p0 none _ h
def f_42_9 (C : CS) (p0 : Int32) : Option (Int32) := (if p0 < 0 then some 0 else (if (49 - 1) ≤ p0 then some 0 else if mv_in (p0 + 1) 49 = true then if mv_in p0 49 = true then some (((kst_11 (p0 + 1).toNatClampNeg) - (kst_11 p0.toNatClampNeg)) - 1) else none else none))
theorem t_42_9 (L : Nat) (xs : Nat → Int32) {C M : CS} {o : Nat → Int64} {c s : Nat} {p0 : Int32} {ret : Int32} (h : f_42_9 C p0 = some ret) : mv_E (mp L xs) 42 (0, [some (.ref 9), some (.int p0)], []) (HPf C M o, c, s) ((.inl (some (.int ret)), (HPf C M o, c, s))) := by
  unfold f_42_9 at h
  refine mv_E.rT (t := mt_42) rfl 1 (f' := (1, [some (.ref 9), some (.int p0)], [.int p0])) (h' := (HPf C M o, c, s)) rfl ?_
  by_cases hc478 : p0 < 0
  · replace h := (if_pos hc478).symm.trans h
    refine mv_E.go rfl (mi_if_pos hc478) ?_
    refine mv_E.rT (t := mt_42) rfl 1 (f' := (36, [some (.ref 9), some (.int p0)], [.int 0])) (h' := (HPf C M o, c, s)) rfl ?_
    cases h
    exact mv_E.done rfl rfl
  replace h := (if_neg hc478).symm.trans h
  refine mv_E.go rfl (mi_if_neg hc478) ?_
  refine mv_E.rT (t := mt_42) rfl 6 (f' := (12, [some (.ref 9), some (.int p0)], [.int (49 - 1), .int p0])) (h' := (HPf C M o, c, s)) rfl ?_
  by_cases hc477 : (49 - 1) ≤ p0
  · replace h := (if_pos hc477).symm.trans h
    refine mv_E.go rfl (mi_icmp_pos hc477) ?_
    refine mv_E.rT (t := mt_42) rfl 1 (f' := (36, [some (.ref 9), some (.int p0)], [.int 0])) (h' := (HPf C M o, c, s)) rfl ?_
    cases h
    exact mv_E.done rfl rfl
  replace h := (if_neg hc477).symm.trans h
  refine mv_E.go rfl (mi_icmp_neg hc477) ?_
  refine mv_E.rT (t := mt_42) rfl 5 (f' := (22, [some (.ref 9), some (.int p0)], [.int (p0 + 1), .ref 11])) (h' := (HPf C M o, c, s)) rfl ?_
  by_cases hb475 : mv_in (p0 + 1) 49 = true
  rotate_left
  · cases (if_neg hb475).symm.trans h
  replace h := (if_pos hb475).symm.trans h
  refine mv_E.go rfl (mi_iald_at rfl hb475) ?_
  refine mv_E.rT (t := mt_42) rfl 3 (f' := (28, [some (.ref 9), some (.int p0)], [.int p0, .ref 11, .int (kst_11 (p0 + 1).toNatClampNeg)])) (h' := (HPf C M o, c, s)) rfl ?_
  by_cases hb476 : mv_in p0 49 = true
  rotate_left
  · cases (if_neg hb476).symm.trans h
  replace h := (if_pos hb476).symm.trans h
  refine mv_E.go rfl (mi_iald_at rfl hb476) ?_
  refine mv_E.rT (t := mt_42) rfl 4 (f' := (36, [some (.ref 9), some (.int p0)], [.int (((kst_11 (p0 + 1).toNatClampNeg) - (kst_11 p0.toNatClampNeg)) - 1)])) (h' := (HPf C M o, c, s)) rfl ?_
  cases h
  exact mv_E.done rfl rfl
def b_57_9_10 : Nat → CS → Int32 → Int32 → Int32 → Int32 → Option (Int32)
  | 0, _, _, _, _, _ => none
  | n + 1, C, l1, l3, l4, l5 => (if l4 ≤ l5 then some 1 else if mv_in l1 49 = true then if sok 1 ((kst_11 l1.toNatClampNeg) + l5) = true then (f_28 C (l3 + l5)).bind fun r486 => (if (sc 1 ((kst_11 l1.toNatClampNeg) + l5)) = r486 then (b_57_9_10 n C) l1 l3 l4 (l5 + 1) else some 0) else none else none)
theorem tb_57_9_10 (L : Nat) (xs : Nat → Int32) (M : CS) (o : Nat → Int64) (c s : Nat) : ∀ (n : Nat) (C : CS) (l1 : Int32) (l3 : Int32) (l4 : Int32) (l5 : Int32) (ret : Int32), b_57_9_10 n C l1 l3 l4 l5 = some ret → mv_E (mp L xs) 57 (10, [some (.ref 9), some (.int l1), some (.ref 1), some (.int l3), some (.int l4), some (.int l5)], []) (HPf C M o, c, s) ((.inl (some (.int ret)), (HPf C M o, c, s))) := by
  intro n
  induction n with
  | zero => intro C l1 l3 l4 l5 ret h; rw [b_57_9_10] at h; cases h
  | succ n ih =>
    intro C l1 l3 l4 l5 ret h
    rw [b_57_9_10] at h
    refine mv_E.rT (t := mt_57) rfl 2 (f' := (14, [some (.ref 9), some (.int l1), some (.ref 1), some (.int l3), some (.int l4), some (.int l5)], [.int l4, .int l5])) (h' := (HPf C M o, c, s)) rfl ?_
    by_cases hc496 : l4 ≤ l5
    · replace h := (if_pos hc496).symm.trans h
      refine mv_E.go rfl (mi_icmp_pos hc496) ?_
      refine mv_E.rT (t := mt_57) rfl 1 (f' := (53, [some (.ref 9), some (.int l1), some (.ref 1), some (.int l3), some (.int l4), some (.int l5)], [.int 1])) (h' := (HPf C M o, c, s)) rfl ?_
      cases h
      exact mv_E.done rfl mi_zret1
    replace h := (if_neg hc496).symm.trans h
    refine mv_E.go rfl (mi_icmp_neg hc496) ?_
    refine mv_E.rT (t := mt_57) rfl 5 (f' := (26, [some (.ref 9), some (.int l1), some (.ref 1), some (.int l3), some (.int l4), some (.int l5)], [.int l1, .ref 11, .retAddr 1])) (h' := (HPf C M o, c, s)) rfl ?_
    by_cases hb491 : mv_in l1 49 = true
    rotate_left
    · cases (if_neg hb491).symm.trans h
    replace h := (if_pos hb491).symm.trans h
    refine mv_E.go rfl (mi_iald_at rfl hb491) ?_
    refine mv_E.rT (t := mt_57) rfl 2 (f' := (30, [some (.ref 9), some (.int l1), some (.ref 1), some (.int l3), some (.int l4), some (.int l5)], [.int ((kst_11 l1.toNatClampNeg) + l5), .retAddr 1])) (h' := (HPf C M o, c, s)) rfl ?_
    by_cases hq495 : sok 1 ((kst_11 l1.toNatClampNeg) + l5) = true
    rotate_left
    · cases (if_neg hq495).symm.trans h
    replace h := (if_pos hq495).symm.trans h
    refine mv_E.call (z := 8) (vs := [.retAddr 1, .int ((kst_11 l1.toNatClampNeg) + l5)]) (f' := (33, [some (.ref 9), some (.int l1), some (.ref 1), some (.int l3), some (.int l4), some (.int l5)], [])) (h' := (HPf C M o, c, s)) rfl (mi_callK_at rfl (sok_q hq495) rfl rfl) rfl (t_char L xs hq495) mv_okr ?_
    refine mv_E.rT (t := mt_57) rfl 4 (f' := (38, [some (.ref 9), some (.int l1), some (.ref 1), some (.int l3), some (.int l4), some (.int l5)], [.int (l3 + l5), .ref 1, .int (sc 1 ((kst_11 l1.toNatClampNeg) + l5))])) (h' := (HPf C M o, c, s)) rfl ?_
    obtain ⟨r492, hr493, h⟩ := Option.bind_eq_some_iff.mp h
    refine mv_E.call (z := 28) (vs := [.ref 1, .int (l3 + l5)]) (f' := (41, [some (.ref 9), some (.int l1), some (.ref 1), some (.int l3), some (.int l4), some (.int l5)], [.int (sc 1 ((kst_11 l1.toNatClampNeg) + l5))])) (h' := (HPf C M o, c, s)) rfl rfl rfl (t_28 L xs hr493) (mv_okl rfl) ?_
    show mv_E (mp L xs) 57 (41, [some (.ref 9), some (.int l1), some (.ref 1), some (.int l3), some (.int l4), some (.int l5)], [.int r492, .int (sc 1 ((kst_11 l1.toNatClampNeg) + l5))]) (HPf C M o, c, s) _
    by_cases hc494 : (sc 1 ((kst_11 l1.toNatClampNeg) + l5)) = r492
    · replace h := (if_pos hc494).symm.trans h
      refine mv_E.go rfl (mi_icmp_pos hc494) ?_
      refine mv_E.rT (t := mt_57) rfl 2 (f' := (10, [some (.ref 9), some (.int l1), some (.ref 1), some (.int l3), some (.int l4), some (.int (l5 + 1))], [])) (h' := (HPf C M o, c, s)) rfl ?_
      exact (ih C) l1 l3 l4 (l5 + 1) _ h
    replace h := (if_neg hc494).symm.trans h
    refine mv_E.go rfl (mi_icmp_neg hc494) ?_
    refine mv_E.rT (t := mt_57) rfl 1 (f' := (45, [some (.ref 9), some (.int l1), some (.ref 1), some (.int l3), some (.int l4), some (.int l5)], [.int 0])) (h' := (HPf C M o, c, s)) rfl ?_
    cases h
    exact mv_E.done rfl mi_zret0
def f_57_9 (C : CS) (p0 : Int32) (p1 : Int32) : Option (Int32) := (f_42_9 C p0).bind fun r483 => b_57_9_10 fu C p0 p1 r483 0
theorem t_57_9 (L : Nat) (xs : Nat → Int32) {C M : CS} {o : Nat → Int64} {c s : Nat} {p0 : Int32} {p1 : Int32} {ret : Int32} (h : f_57_9 C p0 p1 = some ret) : mv_E (mp L xs) 57 (0, [some (.ref 9), some (.int p0), some (.ref 1), some (.int p1), none, none], []) (HPf C M o, c, s) ((.inl (some (.int ret)), (HPf C M o, c, s))) := by
  unfold f_57_9 at h
  refine mv_E.rT (t := mt_57) rfl 2 (f' := (2, [some (.ref 9), some (.int p0), some (.ref 1), some (.int p1), none, none], [.int p0, .ref 9])) (h' := (HPf C M o, c, s)) rfl ?_
  obtain ⟨r483, hr484, h⟩ := Option.bind_eq_some_iff.mp h
  refine mv_E.call (z := 42) (vs := [.ref 9, .int p0]) (f' := (5, [some (.ref 9), some (.int p0), some (.ref 1), some (.int p1), none, none], [])) (h' := (HPf C M o, c, s)) rfl rfl rfl (t_42_9 L xs hr484) (mv_okl rfl) ?_
  refine mv_E.rT (t := mt_57) rfl 3 (f' := (10, [some (.ref 9), some (.int p0), some (.ref 1), some (.int p1), some (.int r483), some (.int 0)], [])) (h' := (HPf C M o, c, s)) rfl ?_
  exact tb_57_9_10 L xs M o c s fu C p0 p1 r483 0 _ h
def b_58_9_45 (k_5 : Int32 → Int32 → Int32 → Option (Int32)) (C : CS) (l2 : Int32) (l3 : Int32) (l4 : Int32) : Option (Int32) := k_5 l2 l3 (l4 + 1)
theorem tb_58_9_45 (L : Nat) (xs : Nat → Int32) (M : CS) (o : Nat → Int64) (c s : Nat) (C : CS) (k_5 : Int32 → Int32 → Int32 → Option (Int32)) (hk_5 : ∀ (l2 : Int32) (l3 : Int32) (l4 : Int32) (ret : Int32), k_5 l2 l3 l4 = some ret → mv_E (mp L xs) 58 (5, [some (.ref 9), some (.ref 1), some (.int l2), some (.int l3), some (.int l4)], []) (HPf C M o, c, s) ((.inl (some (.int ret)), (HPf C M o, c, s)))) (l2 : Int32) (l3 : Int32) (l4 : Int32) (ret : Int32) (h : b_58_9_45 k_5 C l2 l3 l4 = some ret) : mv_E (mp L xs) 58 (45, [some (.ref 9), some (.ref 1), some (.int l2), some (.int l3), some (.int l4)], []) (HPf C M o, c, s) ((.inl (some (.int ret)), (HPf C M o, c, s))) := by
  unfold b_58_9_45 at h
  refine mv_E.rT (t := mt_58) rfl 2 (f' := (5, [some (.ref 9), some (.ref 1), some (.int l2), some (.int l3), some (.int (l4 + 1))], [])) (h' := (HPf C M o, c, s)) rfl ?_
  exact hk_5 l2 l3 (l4 + 1) _ h
def b_58_9_5 : Nat → CS → Int32 → Int32 → Int32 → Option (Int32)
  | 0, _, _, _, _ => none
  | n + 1, C, l2, l3, l4 => (if (49 - 1) ≤ l4 then some l3 else (f_42_9 C l4).bind fun r479 => (f_42_9 C l3).bind fun r481 => (if r479 ≤ r481 then b_58_9_45 (b_58_9_5 n C) C l2 l3 l4 else (f_57_9 C l4 l2).bind fun r497 => (if r497 = 0 then b_58_9_45 (b_58_9_5 n C) C l2 l3 l4 else b_58_9_45 (b_58_9_5 n C) C l2 l4 l4)))
theorem tb_58_9_5 (L : Nat) (xs : Nat → Int32) (M : CS) (o : Nat → Int64) (c s : Nat) : ∀ (n : Nat) (C : CS) (l2 : Int32) (l3 : Int32) (l4 : Int32) (ret : Int32), b_58_9_5 n C l2 l3 l4 = some ret → mv_E (mp L xs) 58 (5, [some (.ref 9), some (.ref 1), some (.int l2), some (.int l3), some (.int l4)], []) (HPf C M o, c, s) ((.inl (some (.int ret)), (HPf C M o, c, s))) := by
  intro n
  induction n with
  | zero => intro C l2 l3 l4 ret h; rw [b_58_9_5] at h; cases h
  | succ n ih =>
    intro C l2 l3 l4 ret h
    rw [b_58_9_5] at h
    refine mv_E.rT (t := mt_58) rfl 6 (f' := (14, [some (.ref 9), some (.ref 1), some (.int l2), some (.int l3), some (.int l4)], [.int (49 - 1), .int l4])) (h' := (HPf C M o, c, s)) rfl ?_
    by_cases hc510 : (49 - 1) ≤ l4
    · replace h := (if_pos hc510).symm.trans h
      refine mv_E.go rfl (mi_icmp_pos hc510) ?_
      refine mv_E.rT (t := mt_58) rfl 1 (f' := (52, [some (.ref 9), some (.ref 1), some (.int l2), some (.int l3), some (.int l4)], [.int l3])) (h' := (HPf C M o, c, s)) rfl ?_
      cases h
      exact mv_E.done rfl rfl
    replace h := (if_neg hc510).symm.trans h
    refine mv_E.go rfl (mi_icmp_neg hc510) ?_
    refine mv_E.rT (t := mt_58) rfl 2 (f' := (20, [some (.ref 9), some (.ref 1), some (.int l2), some (.int l3), some (.int l4)], [.int l4, .ref 9])) (h' := (HPf C M o, c, s)) rfl ?_
    obtain ⟨r502, hr503, h⟩ := Option.bind_eq_some_iff.mp h
    refine mv_E.call (z := 42) (vs := [.ref 9, .int l4]) (f' := (23, [some (.ref 9), some (.ref 1), some (.int l2), some (.int l3), some (.int l4)], [])) (h' := (HPf C M o, c, s)) rfl rfl rfl (t_42_9 L xs hr503) (mv_okl rfl) ?_
    refine mv_E.rT (t := mt_58) rfl 2 (f' := (25, [some (.ref 9), some (.ref 1), some (.int l2), some (.int l3), some (.int l4)], [.int l3, .ref 9, .int r502])) (h' := (HPf C M o, c, s)) rfl ?_
    obtain ⟨r504, hr505, h⟩ := Option.bind_eq_some_iff.mp h
    refine mv_E.call (z := 42) (vs := [.ref 9, .int l3]) (f' := (28, [some (.ref 9), some (.ref 1), some (.int l2), some (.int l3), some (.int l4)], [.int r502])) (h' := (HPf C M o, c, s)) rfl rfl rfl (t_42_9 L xs hr505) (mv_okl rfl) ?_
    show mv_E (mp L xs) 58 (28, [some (.ref 9), some (.ref 1), some (.int l2), some (.int l3), some (.int l4)], [.int r504, .int r502]) (HPf C M o, c, s) _
    by_cases hc509 : r502 ≤ r504
    · replace h := (if_pos hc509).symm.trans h
      refine mv_E.go rfl (mi_icmp_pos hc509) ?_
      show mv_E (mp L xs) 58 (45, [some (.ref 9), some (.ref 1), some (.int l2), some (.int l3), some (.int l4)], []) (HPf C M o, c, s) _
      exact tb_58_9_45 L xs M o c s C (b_58_9_5 n C) (ih C) l2 l3 l4 _ h
    replace h := (if_neg hc509).symm.trans h
    refine mv_E.go rfl (mi_icmp_neg hc509) ?_
    refine mv_E.rT (t := mt_58) rfl 4 (f' := (36, [some (.ref 9), some (.ref 1), some (.int l2), some (.int l3), some (.int l4)], [.int l2, .ref 1, .int l4, .ref 9])) (h' := (HPf C M o, c, s)) rfl ?_
    obtain ⟨r506, hr507, h⟩ := Option.bind_eq_some_iff.mp h
    refine mv_E.call (z := 57) (vs := [.ref 9, .int l4, .ref 1, .int l2]) (f' := (39, [some (.ref 9), some (.ref 1), some (.int l2), some (.int l3), some (.int l4)], [])) (h' := (HPf C M o, c, s)) rfl rfl rfl (t_57_9 L xs hr507) (mv_okl rfl) ?_
    show mv_E (mp L xs) 58 (39, [some (.ref 9), some (.ref 1), some (.int l2), some (.int l3), some (.int l4)], [.int r506]) (HPf C M o, c, s) _
    by_cases hc508 : r506 = 0
    · replace h := (if_pos hc508).symm.trans h
      refine mv_E.go rfl (mi_if_pos hc508) ?_
      show mv_E (mp L xs) 58 (45, [some (.ref 9), some (.ref 1), some (.int l2), some (.int l3), some (.int l4)], []) (HPf C M o, c, s) _
      exact tb_58_9_45 L xs M o c s C (b_58_9_5 n C) (ih C) l2 l3 l4 _ h
    replace h := (if_neg hc508).symm.trans h
    refine mv_E.go rfl (mi_if_neg hc508) ?_
    refine mv_E.rT (t := mt_58) rfl 2 (f' := (45, [some (.ref 9), some (.ref 1), some (.int l2), some (.int l4), some (.int l4)], [])) (h' := (HPf C M o, c, s)) rfl ?_
    exact tb_58_9_45 L xs M o c s C (b_58_9_5 n C) (ih C) l2 l4 l4 _ h
def f_58_9 (C : CS) (p0 : Int32) : Option (Int32) := b_58_9_5 fu C p0 (-1) 0
theorem t_58_9 (L : Nat) (xs : Nat → Int32) {C M : CS} {o : Nat → Int64} {c s : Nat} {p0 : Int32} {ret : Int32} (h : f_58_9 C p0 = some ret) : mv_E (mp L xs) 58 (0, [some (.ref 9), some (.ref 1), some (.int p0), none, none], []) (HPf C M o, c, s) ((.inl (some (.int ret)), (HPf C M o, c, s))) := by
  unfold f_58_9 at h
  refine mv_E.rT (t := mt_58) rfl 4 (f' := (5, [some (.ref 9), some (.ref 1), some (.int p0), some (.int (-1)), some (.int 0)], [])) (h' := (HPf C M o, c, s)) rfl ?_
  exact tb_58_9_5 L xs M o c s fu C p0 (-1) 0 _ h
def b_59_28 (C : CS) : Option (Int32 × CS) := (f_32 C (C.1 11)).bind fun r513 => if r513.1 = 0 ∨ r513.1 = 1 then some (r513.1, r513.2) else none
theorem tb_59_28 (L : Nat) (xs : Nat → Int32) (M : CS) (o : Nat → Int64) (c s : Nat) (C : CS) (d1 : Option Int32) (ret : Int32 × CS) (h : b_59_28 C = some ret) : mv_E (mp L xs) 59 (28, [some (.ref 5), d1.map .int], []) (HPf C M o, c, s) ((.inl (some (.int ret.1)), (HPf ret.2 M o, c, s))) := by
  unfold b_59_28 at h
  refine mv_E.rT (t := mt_59) rfl 3 (f' := (33, [some (.ref 5), d1.map .int], [.int (C.1 11), .ref 5])) (h' := (HPf C M o, c, s)) rfl ?_
  obtain ⟨r516, hr517, h⟩ := Option.bind_eq_some_iff.mp h
  refine mv_E.call (z := 32) (vs := [.ref 5, .int (C.1 11)]) (f' := (36, [some (.ref 5), d1.map .int], [])) (h' := (HPf C M o, c, s)) rfl rfl rfl (t_32 L xs hr517) (mv_okl rfl) ?_
  show mv_E (mp L xs) 59 (36, [some (.ref 5), d1.map .int], [.int r516.1]) (HPf r516.2 M o, c, s) _
  by_cases hz518 : r516.1 = 0 ∨ r516.1 = 1
  rotate_left
  · cases (if_neg hz518).symm.trans h
  replace h := (if_pos hz518).symm.trans h
  cases h
  exact mv_E.done rfl (mi_zret_at hz518)
def f_59 (C : CS) : Option (Int32 × CS) := (f_58_9 C (C.1 11)).bind fun r511 => (if r511 < 0 then b_59_28 C else (if r511 < 48 then if mv_in r511 48 = true then (f_42_9 (ru (ru (C.1) 3 (4)) 9 ((ms_sgn.getD r511.toNatClampNeg 0)), C.2) r511).bind fun r520 => some (1, (ru (ru (ru (C.1) 3 (4)) 9 ((ms_sgn.getD r511.toNatClampNeg 0))) 11 (((C.1 11) + r520)), C.2)) else none else b_59_28 C))
theorem t_59 (L : Nat) (xs : Nat → Int32) {C M : CS} {o : Nat → Int64} {c s : Nat} {ret : Int32 × CS} (h : f_59 C = some ret) : mv_E (mp L xs) 59 (0, [some (.ref 5), none], []) (HPf C M o, c, s) ((.inl (some (.int ret.1)), (HPf ret.2 M o, c, s))) := by
  unfold f_59 at h
  refine mv_E.rT (t := mt_59) rfl 6 (f' := (12, [some (.ref 5), none], [.int (C.1 11), .ref 1, .ref 9])) (h' := (HPf C M o, c, s)) rfl ?_
  obtain ⟨r511, hr512, h⟩ := Option.bind_eq_some_iff.mp h
  refine mv_E.call (z := 58) (vs := [.ref 9, .ref 1, .int (C.1 11)]) (f' := (15, [some (.ref 5), none], [])) (h' := (HPf C M o, c, s)) rfl rfl rfl (t_58_9 L xs hr512) (mv_okl rfl) ?_
  refine mv_E.rT (t := mt_59) rfl 2 (f' := (17, [some (.ref 5), some (.int r511)], [.int r511])) (h' := (HPf C M o, c, s)) rfl ?_
  by_cases hc523 : r511 < 0
  · replace h := (if_pos hc523).symm.trans h
    refine mv_E.go rfl (mi_if_pos hc523) ?_
    show mv_E (mp L xs) 59 (28, [some (.ref 5), some (.int r511)], []) (HPf C M o, c, s) _
    exact tb_59_28 L xs M o c s C (some r511) _ h
  replace h := (if_neg hc523).symm.trans h
  refine mv_E.go rfl (mi_if_neg hc523) ?_
  refine mv_E.rT (t := mt_59) rfl 3 (f' := (25, [some (.ref 5), some (.int r511)], [.int 48, .int r511])) (h' := (HPf C M o, c, s)) rfl ?_
  by_cases hc522 : r511 < 48
  · replace h := (if_pos hc522).symm.trans h
    refine mv_E.go rfl (mi_icmp_pos hc522) ?_
    refine mv_E.rT (t := mt_59) rfl 8 (f' := (53, [some (.ref 5), some (.int r511)], [.int r511, .retAddr 401, .ref 3])) (h' := (HPf (ru (C.1) 3 (4), C.2) M o, c, s)) rfl ?_
    by_cases hb519 : mv_in r511 48 = true
    rotate_left
    · cases (if_neg hb519).symm.trans h
    replace h := (if_pos hb519).symm.trans h
    refine mv_E.go rfl (mi_tld_at rfl hb519) ?_
    refine mv_E.rT (t := mt_59) rfl 7 (f' := (67, [some (.ref 5), some (.int r511)], [.int r511, .ref 9, .int (C.1 11), .ref 5])) (h' := (HPf (ru (ru (C.1) 3 (4)) 9 ((ms_sgn.getD r511.toNatClampNeg 0)), C.2) M o, c, s)) rfl ?_
    obtain ⟨r520, hr521, h⟩ := Option.bind_eq_some_iff.mp h
    refine mv_E.call (z := 42) (vs := [.ref 9, .int r511]) (f' := (70, [some (.ref 5), some (.int r511)], [.int (C.1 11), .ref 5])) (h' := (HPf (ru (ru (C.1) 3 (4)) 9 ((ms_sgn.getD r511.toNatClampNeg 0)), C.2) M o, c, s)) rfl rfl rfl (t_42_9 L xs hr521) (mv_okl rfl) ?_
    refine mv_E.rT (t := mt_59) rfl 3 (f' := (75, [some (.ref 5), some (.int r511)], [.int 1])) (h' := (HPf (ru (ru (ru (C.1) 3 (4)) 9 ((ms_sgn.getD r511.toNatClampNeg 0))) 11 (((C.1 11) + r520)), C.2) M o, c, s)) rfl ?_
    cases h
    exact mv_E.done rfl mi_zret1
  replace h := (if_neg hc522).symm.trans h
  refine mv_E.go rfl (mi_icmp_neg hc522) ?_
  show mv_E (mp L xs) 59 (28, [some (.ref 5), some (.int r511)], []) (HPf C M o, c, s) _
  exact tb_59_28 L xs M o c s C (some r511) _ h
def b_60_133 (C : CS) (l2 : Int32) : Option (Int32 × CS) := if l2 = 0 ∨ l2 = 1 then some (l2, (ru (C.1) 5 (C.1 11), C.2)) else none
theorem tb_60_133 (L : Nat) (xs : Nat → Int32) (M : CS) (o : Nat → Int64) (c s : Nat) (C : CS) (l2 : Int32) (d1 : Option Int32) (ret : Int32 × CS) (h : b_60_133 C l2 = some ret) : mv_E (mp L xs) 60 (133, [some (.ref 5), d1.map .int, some (.int l2)], []) (HPf C M o, c, s) ((.inl (some (.int ret.1)), (HPf ret.2 M o, c, s))) := by
  unfold b_60_133 at h
  refine mv_E.rT (t := mt_60) rfl 6 (f' := (145, [some (.ref 5), d1.map .int, some (.int l2)], [.int l2])) (h' := (HPf (ru (C.1) 5 (C.1 11), C.2) M o, c, s)) rfl ?_
  by_cases hz227 : l2 = 0 ∨ l2 = 1
  rotate_left
  · cases (if_neg hz227).symm.trans h
  replace h := (if_pos hz227).symm.trans h
  cases h
  exact mv_E.done rfl (mi_zret_at hz227)
def b_60_54 (C : CS) : Option (Int32 × CS) := (f_45 C).bind fun r224 => b_60_133 r224.2 r224.1
theorem tb_60_54 (L : Nat) (xs : Nat → Int32) (M : CS) (o : Nat → Int64) (c s : Nat) (C : CS) (d1 : Option Int32) (d2 : Option Int32) (ret : Int32 × CS) (h : b_60_54 C = some ret) : mv_E (mp L xs) 60 (54, [some (.ref 5), d1.map .int, d2.map .int], []) (HPf C M o, c, s) ((.inl (some (.int ret.1)), (HPf ret.2 M o, c, s))) := by
  unfold b_60_54 at h
  rcases d1 with _ | d1
  · refine mv_E.rT (t := mt_60) rfl 1 (f' := (55, [some (.ref 5), none, d2.map .int], [.ref 5])) (h' := (HPf C M o, c, s)) rfl ?_
    obtain ⟨r228, hr229, h⟩ := Option.bind_eq_some_iff.mp h
    refine mv_E.call (z := 45) (vs := [.ref 5]) (f' := (58, [some (.ref 5), none, d2.map .int], [])) (h' := (HPf C M o, c, s)) rfl rfl rfl (t_45 L xs hr229) (mv_okl rfl) ?_
    refine mv_E.rT (t := mt_60) rfl 2 (f' := (133, [some (.ref 5), none, some (.int r228.1)], [])) (h' := (HPf r228.2 M o, c, s)) rfl ?_
    exact tb_60_133 L xs M o c s r228.2 r228.1 none _ h
  · refine mv_E.rT (t := mt_60) rfl 1 (f' := (55, [some (.ref 5), some (.int d1), d2.map .int], [.ref 5])) (h' := (HPf C M o, c, s)) rfl ?_
    obtain ⟨r230, hr231, h⟩ := Option.bind_eq_some_iff.mp h
    refine mv_E.call (z := 45) (vs := [.ref 5]) (f' := (58, [some (.ref 5), some (.int d1), d2.map .int], [])) (h' := (HPf C M o, c, s)) rfl rfl rfl (t_45 L xs hr231) (mv_okl rfl) ?_
    refine mv_E.rT (t := mt_60) rfl 2 (f' := (133, [some (.ref 5), some (.int d1), some (.int r230.1)], [])) (h' := (HPf r230.2 M o, c, s)) rfl ?_
    exact tb_60_133 L xs M o c s r230.2 r230.1 (some d1) _ h
def b_60_94 (C : CS) : Option (Int32 × CS) := (f_51 C).bind fun r366 => b_60_133 r366.2 r366.1
theorem tb_60_94 (L : Nat) (xs : Nat → Int32) (M : CS) (o : Nat → Int64) (c s : Nat) (C : CS) (d1 : Option Int32) (d2 : Option Int32) (ret : Int32 × CS) (h : b_60_94 C = some ret) : mv_E (mp L xs) 60 (94, [some (.ref 5), d1.map .int, d2.map .int], []) (HPf C M o, c, s) ((.inl (some (.int ret.1)), (HPf ret.2 M o, c, s))) := by
  unfold b_60_94 at h
  rcases d1 with _ | d1
  · refine mv_E.rT (t := mt_60) rfl 1 (f' := (95, [some (.ref 5), none, d2.map .int], [.ref 5])) (h' := (HPf C M o, c, s)) rfl ?_
    obtain ⟨r368, hr369, h⟩ := Option.bind_eq_some_iff.mp h
    refine mv_E.call (z := 51) (vs := [.ref 5]) (f' := (98, [some (.ref 5), none, d2.map .int], [])) (h' := (HPf C M o, c, s)) rfl rfl rfl (t_51 L xs hr369) (mv_okl rfl) ?_
    refine mv_E.rT (t := mt_60) rfl 2 (f' := (133, [some (.ref 5), none, some (.int r368.1)], [])) (h' := (HPf r368.2 M o, c, s)) rfl ?_
    exact tb_60_133 L xs M o c s r368.2 r368.1 none _ h
  · refine mv_E.rT (t := mt_60) rfl 1 (f' := (95, [some (.ref 5), some (.int d1), d2.map .int], [.ref 5])) (h' := (HPf C M o, c, s)) rfl ?_
    obtain ⟨r370, hr371, h⟩ := Option.bind_eq_some_iff.mp h
    refine mv_E.call (z := 51) (vs := [.ref 5]) (f' := (98, [some (.ref 5), some (.int d1), d2.map .int], [])) (h' := (HPf C M o, c, s)) rfl rfl rfl (t_51 L xs hr371) (mv_okl rfl) ?_
    refine mv_E.rT (t := mt_60) rfl 2 (f' := (133, [some (.ref 5), some (.int d1), some (.int r370.1)], [])) (h' := (HPf r370.2 M o, c, s)) rfl ?_
    exact tb_60_133 L xs M o c s r370.2 r370.1 (some d1) _ h
def b_60_114 (C : CS) (l1 : Int32) : Option (Int32 × CS) := (f_56 C l1).bind fun r471 => b_60_133 r471.2 r471.1
theorem tb_60_114 (L : Nat) (xs : Nat → Int32) (M : CS) (o : Nat → Int64) (c s : Nat) (C : CS) (l1 : Int32) (d2 : Option Int32) (ret : Int32 × CS) (h : b_60_114 C l1 = some ret) : mv_E (mp L xs) 60 (114, [some (.ref 5), some (.int l1), d2.map .int], []) (HPf C M o, c, s) ((.inl (some (.int ret.1)), (HPf ret.2 M o, c, s))) := by
  unfold b_60_114 at h
  refine mv_E.rT (t := mt_60) rfl 2 (f' := (116, [some (.ref 5), some (.int l1), d2.map .int], [.int l1, .ref 5])) (h' := (HPf C M o, c, s)) rfl ?_
  obtain ⟨r473, hr474, h⟩ := Option.bind_eq_some_iff.mp h
  refine mv_E.call (z := 56) (vs := [.ref 5, .int l1]) (f' := (119, [some (.ref 5), some (.int l1), d2.map .int], [])) (h' := (HPf C M o, c, s)) rfl rfl rfl (t_56 L xs hr474) (mv_okl rfl) ?_
  refine mv_E.rT (t := mt_60) rfl 2 (f' := (133, [some (.ref 5), some (.int l1), some (.int r473.1)], [])) (h' := (HPf r473.2 M o, c, s)) rfl ?_
  exact tb_60_133 L xs M o c s r473.2 r473.1 (some l1) _ h
def b_60_102 (C : CS) (l1 : Int32) (l2 : Int32) : Option (Int32 × CS) := (if l1 = 34 then b_60_114 C l1 else (if ¬ l1 = 39 then (if l1 = (-1) then b_60_133 C l2 else (f_59 C).bind fun r524 => b_60_133 r524.2 r524.1) else b_60_114 C l1))
theorem tb_60_102 (L : Nat) (xs : Nat → Int32) (M : CS) (o : Nat → Int64) (c s : Nat) (C : CS) (l1 : Int32) (l2 : Int32) (ret : Int32 × CS) (h : b_60_102 C l1 l2 = some ret) : mv_E (mp L xs) 60 (102, [some (.ref 5), some (.int l1), some (.int l2)], []) (HPf C M o, c, s) ((.inl (some (.int ret.1)), (HPf ret.2 M o, c, s))) := by
  unfold b_60_102 at h
  refine mv_E.rT (t := mt_60) rfl 2 (f' := (105, [some (.ref 5), some (.int l1), some (.int l2)], [.int 34, .int l1])) (h' := (HPf C M o, c, s)) rfl ?_
  by_cases hc533 : l1 = 34
  · replace h := (if_pos hc533).symm.trans h
    refine mv_E.go rfl (mi_icmp_pos hc533) ?_
    show mv_E (mp L xs) 60 (114, [some (.ref 5), some (.int l1), some (.int l2)], []) (HPf C M o, c, s) _
    exact tb_60_114 L xs M o c s C l1 (some l2) _ h
  replace h := (if_neg hc533).symm.trans h
  refine mv_E.go rfl (mi_icmp_neg hc533) ?_
  refine mv_E.rT (t := mt_60) rfl 2 (f' := (111, [some (.ref 5), some (.int l1), some (.int l2)], [.int 39, .int l1])) (h' := (HPf C M o, c, s)) rfl ?_
  by_cases hc532 : ¬ l1 = 39
  · replace h := (if_pos hc532).symm.trans h
    refine mv_E.go rfl (mi_icmp_pos hc532) ?_
    refine mv_E.rT (t := mt_60) rfl 2 (f' := (125, [some (.ref 5), some (.int l1), some (.int l2)], [.int (-1), .int l1])) (h' := (HPf C M o, c, s)) rfl ?_
    by_cases hc531 : l1 = (-1)
    · replace h := (if_pos hc531).symm.trans h
      refine mv_E.go rfl (mi_icmp_pos hc531) ?_
      show mv_E (mp L xs) 60 (133, [some (.ref 5), some (.int l1), some (.int l2)], []) (HPf C M o, c, s) _
      exact tb_60_133 L xs M o c s C l2 (some l1) _ h
    replace h := (if_neg hc531).symm.trans h
    refine mv_E.go rfl (mi_icmp_neg hc531) ?_
    refine mv_E.rT (t := mt_60) rfl 1 (f' := (129, [some (.ref 5), some (.int l1), some (.int l2)], [.ref 5])) (h' := (HPf C M o, c, s)) rfl ?_
    obtain ⟨r529, hr530, h⟩ := Option.bind_eq_some_iff.mp h
    refine mv_E.call (z := 59) (vs := [.ref 5]) (f' := (132, [some (.ref 5), some (.int l1), some (.int l2)], [])) (h' := (HPf C M o, c, s)) rfl rfl rfl (t_59 L xs hr530) (mv_okl rfl) ?_
    refine mv_E.rT (t := mt_60) rfl 1 (f' := (133, [some (.ref 5), some (.int l1), some (.int r529.1)], [])) (h' := (HPf r529.2 M o, c, s)) rfl ?_
    exact tb_60_133 L xs M o c s r529.2 r529.1 (some l1) _ h
  replace h := (if_neg hc532).symm.trans h
  refine mv_E.go rfl (mi_icmp_neg hc532) ?_
  show mv_E (mp L xs) 60 (114, [some (.ref 5), some (.int l1), some (.int l2)], []) (HPf C M o, c, s) _
  exact tb_60_114 L xs M o c s C l1 (some l2) _ h
def f_60 (C : CS) : Option (Int32 × CS) := (f_27 C).bind fun r23 => (f_34 r23).bind fun r97 => (if ¬ r97.1 = 0 then (f_28 (ru (r97.2.1) 4 (r97.2.1 11), r97.2.2) (r97.2.1 11)).bind fun r99 => (if ¬ (f_35 r99) = 0 then b_60_54 (ru (r97.2.1) 4 (r97.2.1 11), r97.2.2) else (if ¬ r99 = 92 then (if ¬ (f_38 r99) = 0 then b_60_94 (ru (r97.2.1) 4 (r97.2.1 11), r97.2.2) else (if ¬ r99 = 46 then b_60_102 (ru (r97.2.1) 4 (r97.2.1 11), r97.2.2) r99 1 else (f_28 (ru (r97.2.1) 4 (r97.2.1 11), r97.2.2) ((r97.2.1 11) + 1)).bind fun r534 => (if (f_38 r534) = 0 then b_60_102 (ru (r97.2.1) 4 (r97.2.1 11), r97.2.2) r99 1 else b_60_94 (ru (r97.2.1) 4 (r97.2.1 11), r97.2.2)))) else b_60_54 (ru (r97.2.1) 4 (r97.2.1 11), r97.2.2))) else some (0, r97.2))
theorem t_60 (L : Nat) (xs : Nat → Int32) {C M : CS} {o : Nat → Int64} {c s : Nat} {ret : Int32 × CS} (h : f_60 C = some ret) : mv_E (mp L xs) 60 (0, [some (.ref 5), none, none], []) (HPf C M o, c, s) ((.inl (some (.int ret.1)), (HPf ret.2 M o, c, s))) := by
  unfold f_60 at h
  refine mv_E.rT (t := mt_60) rfl 2 (f' := (4, [some (.ref 5), none, none], [.ref 3])) (h' := (HPf C M o, c, s)) rfl ?_
  obtain ⟨r23, hr24, h⟩ := Option.bind_eq_some_iff.mp h
  refine mv_E.call (z := 27) (vs := [.ref 3]) (f' := (7, [some (.ref 5), none, none], [])) (h' := (HPf C M o, c, s)) rfl rfl rfl (t_27 L xs hr24) (mv_okl rfl) ?_
  refine mv_E.rT (t := mt_60) rfl 1 (f' := (8, [some (.ref 5), none, none], [.ref 5])) (h' := (HPf r23 M o, c, s)) rfl ?_
  obtain ⟨r97, hr98, h⟩ := Option.bind_eq_some_iff.mp h
  refine mv_E.call (z := 34) (vs := [.ref 5]) (f' := (11, [some (.ref 5), none, none], [])) (h' := (HPf r23 M o, c, s)) rfl rfl rfl (t_34 L xs hr98) (mv_okl rfl) ?_
  show mv_E (mp L xs) 60 (11, [some (.ref 5), none, none], [.int r97.1]) (HPf r97.2 M o, c, s) _
  by_cases hc541 : ¬ r97.1 = 0
  · replace h := (if_pos hc541).symm.trans h
    refine mv_E.go rfl (mi_if_pos hc541) ?_
    refine mv_E.rT (t := mt_60) rfl 9 (f' := (35, [some (.ref 5), none, none], [.int (r97.2.1 11), .ref 1])) (h' := (HPf (ru (r97.2.1) 4 (r97.2.1 11), r97.2.2) M o, c, s)) rfl ?_
    obtain ⟨r99, hr100, h⟩ := Option.bind_eq_some_iff.mp h
    refine mv_E.call (z := 28) (vs := [.ref 1, .int (r97.2.1 11)]) (f' := (38, [some (.ref 5), none, none], [])) (h' := (HPf (ru (r97.2.1) 4 (r97.2.1 11), r97.2.2) M o, c, s)) rfl rfl rfl (t_28 L xs hr100) (mv_okl rfl) ?_
    refine mv_E.rT (t := mt_60) rfl 4 (f' := (42, [some (.ref 5), some (.int r99), some (.int 1)], [.int r99])) (h' := (HPf (ru (r97.2.1) 4 (r97.2.1 11), r97.2.2) M o, c, s)) rfl ?_
    refine mv_E.call (z := 35) (vs := [.int r99]) (f' := (45, [some (.ref 5), some (.int r99), some (.int 1)], [])) (h' := (HPf (ru (r97.2.1) 4 (r97.2.1 11), r97.2.2) M o, c, s)) rfl rfl rfl (t_35 L xs rfl) (mv_okl rfl) ?_
    show mv_E (mp L xs) 60 (45, [some (.ref 5), some (.int r99), some (.int 1)], [.int (f_35 r99)]) (HPf (ru (r97.2.1) 4 (r97.2.1 11), r97.2.2) M o, c, s) _
    by_cases hc540 : ¬ (f_35 r99) = 0
    · replace h := (if_pos hc540).symm.trans h
      refine mv_E.go rfl (mi_if_pos hc540) ?_
      show mv_E (mp L xs) 60 (54, [some (.ref 5), some (.int r99), some (.int 1)], []) (HPf (ru (r97.2.1) 4 (r97.2.1 11), r97.2.2) M o, c, s) _
      exact tb_60_54 L xs M o c s (ru (r97.2.1) 4 (r97.2.1 11), r97.2.2) (some r99) (some 1) _ h
    replace h := (if_neg hc540).symm.trans h
    refine mv_E.go rfl (mi_if_neg hc540) ?_
    refine mv_E.rT (t := mt_60) rfl 2 (f' := (51, [some (.ref 5), some (.int r99), some (.int 1)], [.int 92, .int r99])) (h' := (HPf (ru (r97.2.1) 4 (r97.2.1 11), r97.2.2) M o, c, s)) rfl ?_
    by_cases hc539 : ¬ r99 = 92
    · replace h := (if_pos hc539).symm.trans h
      refine mv_E.go rfl (mi_icmp_pos hc539) ?_
      refine mv_E.rT (t := mt_60) rfl 1 (f' := (63, [some (.ref 5), some (.int r99), some (.int 1)], [.int r99])) (h' := (HPf (ru (r97.2.1) 4 (r97.2.1 11), r97.2.2) M o, c, s)) rfl ?_
      refine mv_E.call (z := 38) (vs := [.int r99]) (f' := (66, [some (.ref 5), some (.int r99), some (.int 1)], [])) (h' := (HPf (ru (r97.2.1) 4 (r97.2.1 11), r97.2.2) M o, c, s)) rfl rfl rfl (t_38 L xs rfl) (mv_okl rfl) ?_
      show mv_E (mp L xs) 60 (66, [some (.ref 5), some (.int r99), some (.int 1)], [.int (f_38 r99)]) (HPf (ru (r97.2.1) 4 (r97.2.1 11), r97.2.2) M o, c, s) _
      by_cases hc538 : ¬ (f_38 r99) = 0
      · replace h := (if_pos hc538).symm.trans h
        refine mv_E.go rfl (mi_if_pos hc538) ?_
        show mv_E (mp L xs) 60 (94, [some (.ref 5), some (.int r99), some (.int 1)], []) (HPf (ru (r97.2.1) 4 (r97.2.1 11), r97.2.2) M o, c, s) _
        exact tb_60_94 L xs M o c s (ru (r97.2.1) 4 (r97.2.1 11), r97.2.2) (some r99) (some 1) _ h
      replace h := (if_neg hc538).symm.trans h
      refine mv_E.go rfl (mi_if_neg hc538) ?_
      refine mv_E.rT (t := mt_60) rfl 2 (f' := (72, [some (.ref 5), some (.int r99), some (.int 1)], [.int 46, .int r99])) (h' := (HPf (ru (r97.2.1) 4 (r97.2.1 11), r97.2.2) M o, c, s)) rfl ?_
      by_cases hc537 : ¬ r99 = 46
      · replace h := (if_pos hc537).symm.trans h
        refine mv_E.go rfl (mi_icmp_pos hc537) ?_
        show mv_E (mp L xs) 60 (102, [some (.ref 5), some (.int r99), some (.int 1)], []) (HPf (ru (r97.2.1) 4 (r97.2.1 11), r97.2.2) M o, c, s) _
        exact tb_60_102 L xs M o c s (ru (r97.2.1) 4 (r97.2.1 11), r97.2.2) r99 1 _ h
      replace h := (if_neg hc537).symm.trans h
      refine mv_E.go rfl (mi_icmp_neg hc537) ?_
      refine mv_E.rT (t := mt_60) rfl 6 (f' := (85, [some (.ref 5), some (.int r99), some (.int 1)], [.int ((r97.2.1 11) + 1), .ref 1])) (h' := (HPf (ru (r97.2.1) 4 (r97.2.1 11), r97.2.2) M o, c, s)) rfl ?_
      obtain ⟨r534, hr535, h⟩ := Option.bind_eq_some_iff.mp h
      refine mv_E.call (z := 28) (vs := [.ref 1, .int ((r97.2.1 11) + 1)]) (f' := (88, [some (.ref 5), some (.int r99), some (.int 1)], [])) (h' := (HPf (ru (r97.2.1) 4 (r97.2.1 11), r97.2.2) M o, c, s)) rfl rfl rfl (t_28 L xs hr535) (mv_okl rfl) ?_
      show mv_E (mp L xs) 60 (88, [some (.ref 5), some (.int r99), some (.int 1)], [.int r534]) (HPf (ru (r97.2.1) 4 (r97.2.1 11), r97.2.2) M o, c, s) _
      refine mv_E.call (z := 38) (vs := [.int r534]) (f' := (91, [some (.ref 5), some (.int r99), some (.int 1)], [])) (h' := (HPf (ru (r97.2.1) 4 (r97.2.1 11), r97.2.2) M o, c, s)) rfl rfl rfl (t_38 L xs rfl) (mv_okl rfl) ?_
      show mv_E (mp L xs) 60 (91, [some (.ref 5), some (.int r99), some (.int 1)], [.int (f_38 r534)]) (HPf (ru (r97.2.1) 4 (r97.2.1 11), r97.2.2) M o, c, s) _
      by_cases hc536 : (f_38 r534) = 0
      · replace h := (if_pos hc536).symm.trans h
        refine mv_E.go rfl (mi_if_pos hc536) ?_
        show mv_E (mp L xs) 60 (102, [some (.ref 5), some (.int r99), some (.int 1)], []) (HPf (ru (r97.2.1) 4 (r97.2.1 11), r97.2.2) M o, c, s) _
        exact tb_60_102 L xs M o c s (ru (r97.2.1) 4 (r97.2.1 11), r97.2.2) r99 1 _ h
      replace h := (if_neg hc536).symm.trans h
      refine mv_E.go rfl (mi_if_neg hc536) ?_
      show mv_E (mp L xs) 60 (94, [some (.ref 5), some (.int r99), some (.int 1)], []) (HPf (ru (r97.2.1) 4 (r97.2.1 11), r97.2.2) M o, c, s) _
      exact tb_60_94 L xs M o c s (ru (r97.2.1) 4 (r97.2.1 11), r97.2.2) (some r99) (some 1) _ h
    replace h := (if_neg hc539).symm.trans h
    refine mv_E.go rfl (mi_icmp_neg hc539) ?_
    show mv_E (mp L xs) 60 (54, [some (.ref 5), some (.int r99), some (.int 1)], []) (HPf (ru (r97.2.1) 4 (r97.2.1 11), r97.2.2) M o, c, s) _
    exact tb_60_54 L xs M o c s (ru (r97.2.1) 4 (r97.2.1 11), r97.2.2) (some r99) (some 1) _ h
  replace h := (if_neg hc541).symm.trans h
  refine mv_E.go rfl (mi_if_neg hc541) ?_
  refine mv_E.rT (t := mt_60) rfl 1 (f' := (15, [some (.ref 5), none, none], [.int 0])) (h' := (HPf r97.2 M o, c, s)) rfl ?_
  cases h
  exact mv_E.done rfl mi_zret0
def f_61 (C : CS) : Option (CS) := some (ru (C.1) 2 (0), C.2)
theorem t_61 (L : Nat) (xs : Nat → Int32) {C M : CS} {o : Nat → Int64} {c s : Nat} {ret : CS} (h : f_61 C = some ret) : mv_E (mp L xs) 61 (0, [some (.ref 1)], []) (HPf C M o, c, s) ((.inl none, (HPf ret M o, c, s))) := by
  unfold f_61 at h
  refine mv_E.rT (t := mt_61) rfl 3 (f' := (5, [some (.ref 1)], [])) (h' := (HPf (ru (C.1) 2 (0), C.2) M o, c, s)) rfl ?_
  cases h
  exact mv_E.done rfl rfl
def f_62 (C : CS) : Option (CS) := (f_61 (ru (C.1) 0 (0), C.2)).bind fun r544 => some r544
theorem t_62 (L : Nat) (xs : Nat → Int32) {C M : CS} {o : Nat → Int64} {c s : Nat} {ret : CS} (h : f_62 C = some ret) : mv_E (mp L xs) 62 (0, [some (.ref 0)], []) (HPf C M o, c, s) ((.inl none, (HPf ret M o, c, s))) := by
  unfold f_62 at h
  refine mv_E.rT (t := mt_62) rfl 5 (f' := (9, [some (.ref 0)], [.ref 1])) (h' := (HPf (ru (C.1) 0 (0), C.2) M o, c, s)) rfl ?_
  obtain ⟨r544, hr545, h⟩ := Option.bind_eq_some_iff.mp h
  refine mv_E.call (z := 61) (vs := [.ref 1]) (f' := (12, [some (.ref 0)], [])) (h' := (HPf (ru (C.1) 0 (0), C.2) M o, c, s)) rfl rfl rfl (t_61 L xs hr545) (mv_okl rfl) ?_
  show mv_E (mp L xs) 62 (12, [some (.ref 0)], []) (HPf r544 M o, c, s) _
  cases h
  exact mv_E.done rfl rfl
def f_63 (C : CS) (p0 : Int32) : Option ((Int32 ⊕ Nat) × CS) := (if ¬ p0 = 0 then some (.inl (C.1 3), (ru (C.1) 0 (1), C.2)) else (f_62 (ru (C.1) 1 (C.1 12), C.2)).bind fun r546 => some (.inr 0, r546))
theorem t_63 (L : Nat) (xs : Nat → Int32) {C M : CS} {o : Nat → Int64} {c s : Nat} {p0 : Int32} {ret : (Int32 ⊕ Nat) × CS} (h : f_63 C p0 = some ret) : mv_E (mp L xs) 63 (0, [some (.ref 0), some (.int p0)], []) (HPf C M o, c, s) (cvI M o c s ret) := by
  unfold f_63 at h
  refine mv_E.rT (t := mt_63) rfl 1 (f' := (1, [some (.ref 0), some (.int p0)], [.int p0])) (h' := (HPf C M o, c, s)) rfl ?_
  by_cases hc548 : ¬ p0 = 0
  · replace h := (if_pos hc548).symm.trans h
    refine mv_E.go rfl (mi_if_pos hc548) ?_
    refine mv_E.rT (t := mt_63) rfl 6 (f' := (41, [some (.ref 0), some (.int p0)], [.int (C.1 3)])) (h' := (HPf (ru (C.1) 0 (1), C.2) M o, c, s)) rfl ?_
    cases h
    exact mv_E.done rfl rfl
  replace h := (if_neg hc548).symm.trans h
  refine mv_E.go rfl (mi_if_neg hc548) ?_
  refine mv_E.rT (t := mt_63) rfl 6 (f' := (16, [some (.ref 0), some (.int p0)], [.ref 0])) (h' := (HPf (ru (C.1) 1 (C.1 12), C.2) M o, c, s)) rfl ?_
  obtain ⟨r546, hr547, h⟩ := Option.bind_eq_some_iff.mp h
  refine mv_E.call (z := 62) (vs := [.ref 0]) (f' := (19, [some (.ref 0), some (.int p0)], [])) (h' := (HPf (ru (C.1) 1 (C.1 12), C.2) M o, c, s)) rfl rfl rfl (t_62 L xs hr547) (mv_okl rfl) ?_
  show mv_E (mp L xs) 63 (19, [some (.ref 0), some (.int p0)], []) (HPf r546 M o, c, s) _
  cases h
  exact mv_E.done rfl rfl
