def b_89_94 (M : CS) (l2 : Int32) (l3 : Nat) (l4 : Int32) : Option (Int32) := (if l2 = 0 then some l4 else some (l4 + 1))
theorem tb_89_94 (L : Nat) (xs : Nat → Int32) (C : CS) (o : Nat → Int64) (c s : Nat) (M : CS) (l2 : Int32) (l3 : Nat) (l4 : Int32) (d1 : Option Int32) (d5 : Option Int32) (ret : Int32) (h : b_89_94 M l2 l3 l4 = some ret) : mv_E (mp L xs) 89 (94, [some (.ref 18), d1.map .int, some (.int l2), some (.retAddr l3), some (.int l4), d5.map .int], []) (HPf C M o, c, s) ((.inl (some (.int ret)), (HPf C M o, c, s))) := by
  unfold b_89_94 at h
  refine mv_E.rT (t := mt_89) rfl 1 (f' := (95, [some (.ref 18), d1.map .int, some (.int l2), some (.retAddr l3), some (.int l4), d5.map .int], [.int l2])) (h' := (HPf C M o, c, s)) rfl ?_
  by_cases hc1676 : l2 = 0
  · replace h := (if_pos hc1676).symm.trans h
    refine mv_E.go rfl (mi_if_pos hc1676) ?_
    refine mv_E.rT (t := mt_89) rfl 1 (f' := (107, [some (.ref 18), d1.map .int, some (.int l2), some (.retAddr l3), some (.int l4), d5.map .int], [.int l4])) (h' := (HPf C M o, c, s)) rfl ?_
    cases h
    exact mv_E.done rfl rfl
  replace h := (if_neg hc1676).symm.trans h
  refine mv_E.go rfl (mi_if_neg hc1676) ?_
  refine mv_E.rT (t := mt_89) rfl 4 (f' := (107, [some (.ref 18), d1.map .int, some (.int l2), some (.retAddr l3), some (.int l4), d5.map .int], [.int (l4 + 1)])) (h' := (HPf C M o, c, s)) rfl ?_
  cases h
  exact mv_E.done rfl rfl
def b_89_32 : Nat → CS → Int32 → Nat → Int32 → Int32 → Option (Int32)
  | 0, _, _, _, _, _ => none
  | n + 1, M, l2, l3, l4, l5 => (if l4 ≤ l5 then (if l4 = 0 then some 0 else (if l2 = 0 then b_89_94 M l2 l3 l4 else (f_66 M ((M.1 5) + l4)).bind fun r1677 => (if r1677 = 61 then b_89_94 M l2 l3 l4 else some 0))) else (f_66 M ((M.1 5) + l5)).bind fun r1682 => if sok l3 l5 = true then (if r1682 = (sc l3 l5) then (b_89_32 n M) l2 l3 l4 (l5 + 1) else some 0) else none)
theorem tb_89_32 (L : Nat) (xs : Nat → Int32) (C : CS) (o : Nat → Int64) (c s : Nat) : ∀ (n : Nat) (M : CS) (l2 : Int32) (l3 : Nat) (l4 : Int32) (l5 : Int32) (d1 : Option Int32) (ret : Int32), b_89_32 n M l2 l3 l4 l5 = some ret → mv_E (mp L xs) 89 (32, [some (.ref 18), d1.map .int, some (.int l2), some (.retAddr l3), some (.int l4), some (.int l5)], []) (HPf C M o, c, s) ((.inl (some (.int ret)), (HPf C M o, c, s))) := by
  intro n
  induction n with
  | zero => intro M l2 l3 l4 l5 d1 ret h; rw [b_89_32] at h; cases h
  | succ n ih =>
    intro M l2 l3 l4 l5 d1 ret h
    rw [b_89_32] at h
    refine mv_E.rT (t := mt_89) rfl 2 (f' := (36, [some (.ref 18), d1.map .int, some (.int l2), some (.retAddr l3), some (.int l4), some (.int l5)], [.int l4, .int l5])) (h' := (HPf C M o, c, s)) rfl ?_
    by_cases hc1696 : l4 ≤ l5
    · replace h := (if_pos hc1696).symm.trans h
      refine mv_E.go rfl (mi_icmp_pos hc1696) ?_
      refine mv_E.rT (t := mt_89) rfl 1 (f' := (69, [some (.ref 18), d1.map .int, some (.int l2), some (.retAddr l3), some (.int l4), some (.int l5)], [.int l4])) (h' := (HPf C M o, c, s)) rfl ?_
      by_cases hc1691 : l4 = 0
      · replace h := (if_pos hc1691).symm.trans h
        refine mv_E.go rfl (mi_if_pos hc1691) ?_
        refine mv_E.rT (t := mt_89) rfl 1 (f' := (93, [some (.ref 18), d1.map .int, some (.int l2), some (.retAddr l3), some (.int l4), some (.int l5)], [.int 0])) (h' := (HPf C M o, c, s)) rfl ?_
        cases h
        exact mv_E.done rfl rfl
      replace h := (if_neg hc1691).symm.trans h
      refine mv_E.go rfl (mi_if_neg hc1691) ?_
      refine mv_E.rT (t := mt_89) rfl 1 (f' := (73, [some (.ref 18), d1.map .int, some (.int l2), some (.retAddr l3), some (.int l4), some (.int l5)], [.int l2])) (h' := (HPf C M o, c, s)) rfl ?_
      by_cases hc1690 : l2 = 0
      · replace h := (if_pos hc1690).symm.trans h
        refine mv_E.go rfl (mi_if_pos hc1690) ?_
        show mv_E (mp L xs) 89 (94, [some (.ref 18), d1.map .int, some (.int l2), some (.retAddr l3), some (.int l4), some (.int l5)], []) (HPf C M o, c, s) _
        exact tb_89_94 L xs C o c s M l2 l3 l4 d1 (some l5) _ h
      replace h := (if_neg hc1690).symm.trans h
      refine mv_E.go rfl (mi_if_neg hc1690) ?_
      refine mv_E.rT (t := mt_89) rfl 5 (f' := (84, [some (.ref 18), d1.map .int, some (.int l2), some (.retAddr l3), some (.int l4), some (.int l5)], [.int ((M.1 5) + l4), .ref 18])) (h' := (HPf C M o, c, s)) rfl ?_
      obtain ⟨r1687, hr1688, h⟩ := Option.bind_eq_some_iff.mp h
      refine mv_E.call (z := 66) (vs := [.ref 18, .int ((M.1 5) + l4)]) (f' := (87, [some (.ref 18), d1.map .int, some (.int l2), some (.retAddr l3), some (.int l4), some (.int l5)], [])) (h' := (HPf C M o, c, s)) rfl rfl rfl (t_66 L xs hr1688) (mv_okl rfl) ?_
      refine mv_E.rT (t := mt_89) rfl 1 (f' := (89, [some (.ref 18), d1.map .int, some (.int l2), some (.retAddr l3), some (.int l4), some (.int l5)], [.int 61, .int r1687])) (h' := (HPf C M o, c, s)) rfl ?_
      by_cases hc1689 : r1687 = 61
      · replace h := (if_pos hc1689).symm.trans h
        refine mv_E.go rfl (mi_icmp_pos hc1689) ?_
        show mv_E (mp L xs) 89 (94, [some (.ref 18), d1.map .int, some (.int l2), some (.retAddr l3), some (.int l4), some (.int l5)], []) (HPf C M o, c, s) _
        exact tb_89_94 L xs C o c s M l2 l3 l4 d1 (some l5) _ h
      replace h := (if_neg hc1689).symm.trans h
      refine mv_E.go rfl (mi_icmp_neg hc1689) ?_
      refine mv_E.rT (t := mt_89) rfl 1 (f' := (93, [some (.ref 18), d1.map .int, some (.int l2), some (.retAddr l3), some (.int l4), some (.int l5)], [.int 0])) (h' := (HPf C M o, c, s)) rfl ?_
      cases h
      exact mv_E.done rfl rfl
    replace h := (if_neg hc1696).symm.trans h
    refine mv_E.go rfl (mi_icmp_neg hc1696) ?_
    refine mv_E.rT (t := mt_89) rfl 5 (f' := (47, [some (.ref 18), d1.map .int, some (.int l2), some (.retAddr l3), some (.int l4), some (.int l5)], [.int ((M.1 5) + l5), .ref 18])) (h' := (HPf C M o, c, s)) rfl ?_
    obtain ⟨r1692, hr1693, h⟩ := Option.bind_eq_some_iff.mp h
    refine mv_E.call (z := 66) (vs := [.ref 18, .int ((M.1 5) + l5)]) (f' := (50, [some (.ref 18), d1.map .int, some (.int l2), some (.retAddr l3), some (.int l4), some (.int l5)], [])) (h' := (HPf C M o, c, s)) rfl rfl rfl (t_66 L xs hr1693) (mv_okl rfl) ?_
    refine mv_E.rT (t := mt_89) rfl 2 (f' := (53, [some (.ref 18), d1.map .int, some (.int l2), some (.retAddr l3), some (.int l4), some (.int l5)], [.int l5, .retAddr l3, .int r1692])) (h' := (HPf C M o, c, s)) rfl ?_
    by_cases hq1695 : sok l3 l5 = true
    rotate_left
    · cases (if_neg hq1695).symm.trans h
    replace h := (if_pos hq1695).symm.trans h
    refine mv_E.call (z := 8) (vs := [.retAddr l3, .int l5]) (f' := (56, [some (.ref 18), d1.map .int, some (.int l2), some (.retAddr l3), some (.int l4), some (.int l5)], [.int r1692])) (h' := (HPf C M o, c, s)) rfl (mi_callK_at rfl (sok_q hq1695) rfl rfl) rfl (t_char L xs hq1695) mv_okr ?_
    show mv_E (mp L xs) 89 (56, [some (.ref 18), d1.map .int, some (.int l2), some (.retAddr l3), some (.int l4), some (.int l5)], [.int (sc l3 l5), .int r1692]) (HPf C M o, c, s) _
    by_cases hc1694 : r1692 = (sc l3 l5)
    · replace h := (if_pos hc1694).symm.trans h
      refine mv_E.go rfl (mi_icmp_pos hc1694) ?_
      refine mv_E.rT (t := mt_89) rfl 2 (f' := (32, [some (.ref 18), d1.map .int, some (.int l2), some (.retAddr l3), some (.int l4), some (.int (l5 + 1))], [])) (h' := (HPf C M o, c, s)) rfl ?_
      exact (ih M) l2 l3 l4 (l5 + 1) d1 _ h
    replace h := (if_neg hc1694).symm.trans h
    refine mv_E.go rfl (mi_icmp_neg hc1694) ?_
    refine mv_E.rT (t := mt_89) rfl 1 (f' := (60, [some (.ref 18), d1.map .int, some (.int l2), some (.retAddr l3), some (.int l4), some (.int l5)], [.int 0])) (h' := (HPf C M o, c, s)) rfl ?_
    cases h
    exact mv_E.done rfl rfl
def b_89_17 (M : CS) (l1 : Int32) (s0 : Int32) : Option (Int32) := if Nat.blt (f_88 l1) 101 = true then b_89_32 fu M s0 (f_88 l1) (sl (f_88 l1)) 0 else none
theorem tb_89_17 (L : Nat) (xs : Nat → Int32) (C : CS) (o : Nat → Int64) (c s : Nat) (M : CS) (l1 : Int32) (s0 : Int32) (d2 : Option Int32) (d3 : Option Int32) (d4 : Option Int32) (d5 : Option Int32) (ret : Int32) (h : b_89_17 M l1 s0 = some ret) : mv_E (mp L xs) 89 (17, [some (.ref 18), some (.int l1), d2.map .int, d3.map .int, d4.map .int, d5.map .int], [.int s0]) (HPf C M o, c, s) ((.inl (some (.int ret)), (HPf C M o, c, s))) := by
  unfold b_89_17 at h
  refine mv_E.rT (t := mt_89) rfl 2 (f' := (19, [some (.ref 18), some (.int l1), some (.int s0), d3.map .int, d4.map .int, d5.map .int], [.int l1])) (h' := (HPf C M o, c, s)) rfl ?_
  refine mv_E.call (z := 88) (vs := [.int l1]) (f' := (22, [some (.ref 18), some (.int l1), some (.int s0), d3.map .int, d4.map .int, d5.map .int], [])) (h' := (HPf C M o, c, s)) rfl rfl rfl (t_88 L xs rfl) (mv_okl rfl) ?_
  refine mv_E.rT (t := mt_89) rfl 2 (f' := (24, [some (.ref 18), some (.int l1), some (.int s0), some (.retAddr (f_88 l1)), d4.map .int, d5.map .int], [.retAddr (f_88 l1)])) (h' := (HPf C M o, c, s)) rfl ?_
  by_cases hq1698 : Nat.blt (f_88 l1) 101 = true
  rotate_left
  · cases (if_neg hq1698).symm.trans h
  replace h := (if_pos hq1698).symm.trans h
  refine mv_E.call (z := 3) (vs := [.retAddr (f_88 l1)]) (f' := (27, [some (.ref 18), some (.int l1), some (.int s0), some (.retAddr (f_88 l1)), d4.map .int, d5.map .int], [])) (h' := (HPf C M o, c, s)) rfl (mi_callK_at rfl hq1698 rfl rfl) rfl (t_len L xs hq1698) mv_okr ?_
  refine mv_E.rT (t := mt_89) rfl 3 (f' := (32, [some (.ref 18), some (.int l1), some (.int s0), some (.retAddr (f_88 l1)), some (.int (sl (f_88 l1))), some (.int 0)], [])) (h' := (HPf C M o, c, s)) rfl ?_
  exact tb_89_32 L xs C o c s fu M s0 (f_88 l1) (sl (f_88 l1)) 0 (some l1) _ h
def b_89_16 (M : CS) (l1 : Int32) : Option (Int32) := b_89_17 M l1 0
theorem tb_89_16 (L : Nat) (xs : Nat → Int32) (C : CS) (o : Nat → Int64) (c s : Nat) (M : CS) (l1 : Int32) (d2 : Option Int32) (d3 : Option Int32) (d4 : Option Int32) (d5 : Option Int32) (ret : Int32) (h : b_89_16 M l1 = some ret) : mv_E (mp L xs) 89 (16, [some (.ref 18), some (.int l1), d2.map .int, d3.map .int, d4.map .int, d5.map .int], []) (HPf C M o, c, s) ((.inl (some (.int ret)), (HPf C M o, c, s))) := by
  unfold b_89_16 at h
  refine mv_E.rT (t := mt_89) rfl 1 (f' := (17, [some (.ref 18), some (.int l1), d2.map .int, d3.map .int, d4.map .int, d5.map .int], [.int 0])) (h' := (HPf C M o, c, s)) rfl ?_
  exact tb_89_17 L xs C o c s M l1 0 d2 d3 d4 d5 _ h
def f_89 (M : CS) (p0 : Int32) : Option (Int32) := (if p0 ≤ 32 then b_89_16 M p0 else (if 54 ≤ p0 then b_89_16 M p0 else b_89_17 M p0 1))
theorem t_89 (L : Nat) (xs : Nat → Int32) {C M : CS} {o : Nat → Int64} {c s : Nat} {p0 : Int32} {ret : Int32} (h : f_89 M p0 = some ret) : mv_E (mp L xs) 89 (0, [some (.ref 18), some (.int p0), none, none, none, none], []) (HPf C M o, c, s) ((.inl (some (.int ret)), (HPf C M o, c, s))) := by
  unfold f_89 at h
  refine mv_E.rT (t := mt_89) rfl 2 (f' := (3, [some (.ref 18), some (.int p0), none, none, none, none], [.int 32, .int p0])) (h' := (HPf C M o, c, s)) rfl ?_
  by_cases hc1700 : p0 ≤ 32
  · replace h := (if_pos hc1700).symm.trans h
    refine mv_E.go rfl (mi_icmp_pos hc1700) ?_
    show mv_E (mp L xs) 89 (16, [some (.ref 18), some (.int p0), none, none, none, none], []) (HPf C M o, c, s) _
    exact tb_89_16 L xs C o c s M p0 none none none none _ h
  replace h := (if_neg hc1700).symm.trans h
  refine mv_E.go rfl (mi_icmp_neg hc1700) ?_
  refine mv_E.rT (t := mt_89) rfl 2 (f' := (9, [some (.ref 18), some (.int p0), none, none, none, none], [.int 54, .int p0])) (h' := (HPf C M o, c, s)) rfl ?_
  by_cases hc1699 : 54 ≤ p0
  · replace h := (if_pos hc1699).symm.trans h
    refine mv_E.go rfl (mi_icmp_pos hc1699) ?_
    show mv_E (mp L xs) 89 (16, [some (.ref 18), some (.int p0), none, none, none, none], []) (HPf C M o, c, s) _
    exact tb_89_16 L xs C o c s M p0 none none none none _ h
  replace h := (if_neg hc1699).symm.trans h
  refine mv_E.go rfl (mi_icmp_neg hc1699) ?_
  refine mv_E.rT (t := mt_89) rfl 2 (f' := (17, [some (.ref 18), some (.int p0), none, none, none, none], [.int 1])) (h' := (HPf C M o, c, s)) rfl ?_
  exact tb_89_17 L xs C o c s M p0 1 none none none none _ h
def b_90_56 (M : CS) (l1 : Int32) : Option (CS) := some (ru (M.1) 5 (((M.1 5) + l1)), M.2)
theorem tb_90_56 (L : Nat) (xs : Nat → Int32) (C : CS) (o : Nat → Int64) (c s : Nat) (M : CS) (l1 : Int32) (d2 : Option Int32) (ret : CS) (h : b_90_56 M l1 = some ret) : mv_E (mp L xs) 90 (56, [some (.ref 18), some (.int l1), d2.map .int], []) (HPf C M o, c, s) ((.inl none, (HPf C ret o, c, s))) := by
  unfold b_90_56 at h
  refine mv_E.rT (t := mt_90) rfl 6 (f' := (66, [some (.ref 18), some (.int l1), d2.map .int], [])) (h' := (HPf C (ru (M.1) 5 (((M.1 5) + l1)), M.2) o, c, s)) rfl ?_
  cases h
  exact mv_E.done rfl rfl
def b_90_38 (k_9 : CS → Int32 → Int32 → Option (CS)) (M : CS) (l1 : Int32) (l2 : Int32) : Option (CS) := k_9 M l1 (l2 + 1)
theorem tb_90_38 (L : Nat) (xs : Nat → Int32) (C : CS) (o : Nat → Int64) (c s : Nat) (M : CS) (k_9 : CS → Int32 → Int32 → Option (CS)) (hk_9 : ∀ (M : CS) (l1 : Int32) (l2 : Int32) (ret : CS), k_9 M l1 l2 = some ret → mv_E (mp L xs) 90 (9, [some (.ref 18), some (.int l1), some (.int l2)], []) (HPf C M o, c, s) ((.inl none, (HPf C ret o, c, s)))) (l1 : Int32) (l2 : Int32) (ret : CS) (h : b_90_38 k_9 M l1 l2 = some ret) : mv_E (mp L xs) 90 (38, [some (.ref 18), some (.int l1), some (.int l2)], []) (HPf C M o, c, s) ((.inl none, (HPf C ret o, c, s))) := by
  unfold b_90_38 at h
  refine mv_E.rT (t := mt_90) rfl 2 (f' := (9, [some (.ref 18), some (.int l1), some (.int (l2 + 1))], [])) (h' := (HPf C M o, c, s)) rfl ?_
  exact hk_9 M l1 (l2 + 1) _ h
def b_90_9 : Nat → CS → Int32 → Int32 → Option (CS)
  | 0, _, _, _ => none
  | n + 1, M, l1, l2 => (if 75 ≤ l2 then (if ¬ l1 = 0 then b_90_56 M l1 else (f_69 M (M.1 5)).bind fun r1431 => b_90_56 r1431 l1) else (f_89 M l2).bind fun r1701 => (if l1 < r1701 then (f_89 M l2).bind fun r1703 => b_90_38 (b_90_9 n) (ru (M.1) 11 (l2), M.2) r1703 l2 else b_90_38 (b_90_9 n) M l1 l2))
theorem tb_90_9 (L : Nat) (xs : Nat → Int32) (C : CS) (o : Nat → Int64) (c s : Nat) : ∀ (n : Nat) (M : CS) (l1 : Int32) (l2 : Int32) (ret : CS), b_90_9 n M l1 l2 = some ret → mv_E (mp L xs) 90 (9, [some (.ref 18), some (.int l1), some (.int l2)], []) (HPf C M o, c, s) ((.inl none, (HPf C ret o, c, s))) := by
  intro n
  induction n with
  | zero => intro M l1 l2 ret h; rw [b_90_9] at h; cases h
  | succ n ih =>
    intro M l1 l2 ret h
    rw [b_90_9] at h
    refine mv_E.rT (t := mt_90) rfl 2 (f' := (12, [some (.ref 18), some (.int l1), some (.int l2)], [.int 75, .int l2])) (h' := (HPf C M o, c, s)) rfl ?_
    by_cases hc1715 : 75 ≤ l2
    · replace h := (if_pos hc1715).symm.trans h
      refine mv_E.go rfl (mi_icmp_pos hc1715) ?_
      refine mv_E.rT (t := mt_90) rfl 1 (f' := (45, [some (.ref 18), some (.int l1), some (.int l2)], [.int l1])) (h' := (HPf C M o, c, s)) rfl ?_
      by_cases hc1709 : ¬ l1 = 0
      · replace h := (if_pos hc1709).symm.trans h
        refine mv_E.go rfl (mi_if_pos hc1709) ?_
        show mv_E (mp L xs) 90 (56, [some (.ref 18), some (.int l1), some (.int l2)], []) (HPf C M o, c, s) _
        exact tb_90_56 L xs C o c s M l1 (some l2) _ h
      replace h := (if_neg hc1709).symm.trans h
      refine mv_E.go rfl (mi_if_neg hc1709) ?_
      refine mv_E.rT (t := mt_90) rfl 3 (f' := (53, [some (.ref 18), some (.int l1), some (.int l2)], [.int (M.1 5), .ref 18])) (h' := (HPf C M o, c, s)) rfl ?_
      obtain ⟨r1707, hr1708, h⟩ := Option.bind_eq_some_iff.mp h
      refine mv_E.call (z := 69) (vs := [.ref 18, .int (M.1 5)]) (f' := (56, [some (.ref 18), some (.int l1), some (.int l2)], [])) (h' := (HPf C M o, c, s)) rfl rfl rfl (t_69 L xs hr1708) (mv_okl rfl) ?_
      show mv_E (mp L xs) 90 (56, [some (.ref 18), some (.int l1), some (.int l2)], []) (HPf C r1707 o, c, s) _
      exact tb_90_56 L xs C o c s r1707 l1 (some l2) _ h
    replace h := (if_neg hc1715).symm.trans h
    refine mv_E.go rfl (mi_icmp_neg hc1715) ?_
    refine mv_E.rT (t := mt_90) rfl 2 (f' := (17, [some (.ref 18), some (.int l1), some (.int l2)], [.int l2, .ref 18])) (h' := (HPf C M o, c, s)) rfl ?_
    obtain ⟨r1710, hr1711, h⟩ := Option.bind_eq_some_iff.mp h
    refine mv_E.call (z := 89) (vs := [.ref 18, .int l2]) (f' := (20, [some (.ref 18), some (.int l1), some (.int l2)], [])) (h' := (HPf C M o, c, s)) rfl rfl rfl (t_89 L xs hr1711) (mv_okl rfl) ?_
    refine mv_E.rT (t := mt_90) rfl 1 (f' := (21, [some (.ref 18), some (.int l1), some (.int l2)], [.int l1, .int r1710])) (h' := (HPf C M o, c, s)) rfl ?_
    by_cases hc1714 : l1 < r1710
    · replace h := (if_pos hc1714).symm.trans h
      refine mv_E.go rfl (mi_icmp_pos hc1714) ?_
      refine mv_E.rT (t := mt_90) rfl 2 (f' := (29, [some (.ref 18), some (.int l1), some (.int l2)], [.int l2, .ref 18])) (h' := (HPf C M o, c, s)) rfl ?_
      obtain ⟨r1712, hr1713, h⟩ := Option.bind_eq_some_iff.mp h
      refine mv_E.call (z := 89) (vs := [.ref 18, .int l2]) (f' := (32, [some (.ref 18), some (.int l1), some (.int l2)], [])) (h' := (HPf C M o, c, s)) rfl rfl rfl (t_89 L xs hr1713) (mv_okl rfl) ?_
      refine mv_E.rT (t := mt_90) rfl 4 (f' := (38, [some (.ref 18), some (.int r1712), some (.int l2)], [])) (h' := (HPf C (ru (M.1) 11 (l2), M.2) o, c, s)) rfl ?_
      exact tb_90_38 L xs C o c s (ru (M.1) 11 (l2), M.2) (b_90_9 n) ih r1712 l2 _ h
    replace h := (if_neg hc1714).symm.trans h
    refine mv_E.go rfl (mi_icmp_neg hc1714) ?_
    refine mv_E.rT (t := mt_90) rfl 1 (f' := (38, [some (.ref 18), some (.int l1), some (.int l2)], [])) (h' := (HPf C M o, c, s)) rfl ?_
    exact tb_90_38 L xs C o c s M (b_90_9 n) ih l1 l2 _ h
def f_90 (M : CS) : Option (CS) := b_90_9 fu (ru (M.1) 6 (4), M.2) 0 1
theorem t_90 (L : Nat) (xs : Nat → Int32) {C M : CS} {o : Nat → Int64} {c s : Nat} {ret : CS} (h : f_90 M = some ret) : mv_E (mp L xs) 90 (0, [some (.ref 18), none, none], []) (HPf C M o, c, s) ((.inl none, (HPf C ret o, c, s))) := by
  unfold f_90 at h
  refine mv_E.rT (t := mt_90) rfl 7 (f' := (9, [some (.ref 18), some (.int 0), some (.int 1)], [])) (h' := (HPf C (ru (M.1) 6 (4), M.2) o, c, s)) rfl ?_
  exact tb_90_9 L xs C o c s fu (ru (M.1) 6 (4), M.2) 0 1 _ h
def b_91_149 (M : CS) : Option (Int32 × CS) := (f_72 M).bind fun r1179 => some (r1179.1, r1179.2)
theorem tb_91_149 (L : Nat) (xs : Nat → Int32) (C : CS) (o : Nat → Int64) (c s : Nat) (M : CS) (d1 : Option Int32) (ret : Int32 × CS) (h : b_91_149 M = some ret) : mv_E (mp L xs) 91 (149, [some (.ref 18), d1.map .int], []) (HPf C M o, c, s) ((.inl (some (.int ret.1)), (HPf C ret.2 o, c, s))) := by
  unfold b_91_149 at h
  refine mv_E.rT (t := mt_91) rfl 1 (f' := (150, [some (.ref 18), d1.map .int], [.ref 18])) (h' := (HPf C M o, c, s)) rfl ?_
  obtain ⟨r1181, hr1182, h⟩ := Option.bind_eq_some_iff.mp h
  refine mv_E.call (z := 72) (vs := [.ref 18]) (f' := (153, [some (.ref 18), d1.map .int], [])) (h' := (HPf C M o, c, s)) rfl rfl rfl (t_72 L xs hr1182) (mv_okl rfl) ?_
  show mv_E (mp L xs) 91 (153, [some (.ref 18), d1.map .int], [.int r1181.1]) (HPf C r1181.2 o, c, s) _
  cases h
  exact mv_E.done rfl rfl
def b_91_83 (M : CS) : Option (Int32 × CS) := (f_81 M).bind fun r1174 => b_91_149 r1174
theorem tb_91_83 (L : Nat) (xs : Nat → Int32) (C : CS) (o : Nat → Int64) (c s : Nat) (M : CS) (d1 : Option Int32) (ret : Int32 × CS) (h : b_91_83 M = some ret) : mv_E (mp L xs) 91 (83, [some (.ref 18), d1.map .int], []) (HPf C M o, c, s) ((.inl (some (.int ret.1)), (HPf C ret.2 o, c, s))) := by
  unfold b_91_83 at h
  refine mv_E.rT (t := mt_91) rfl 1 (f' := (84, [some (.ref 18), d1.map .int], [.ref 18])) (h' := (HPf C M o, c, s)) rfl ?_
  obtain ⟨r1183, hr1184, h⟩ := Option.bind_eq_some_iff.mp h
  refine mv_E.call (z := 81) (vs := [.ref 18]) (f' := (87, [some (.ref 18), d1.map .int], [])) (h' := (HPf C M o, c, s)) rfl rfl rfl (t_81 L xs hr1184) (mv_okl rfl) ?_
  refine mv_E.rT (t := mt_91) rfl 1 (f' := (149, [some (.ref 18), d1.map .int], [])) (h' := (HPf C r1183 o, c, s)) rfl ?_
  exact tb_91_149 L xs C o c s r1183 d1 _ h
def b_91_119 (M : CS) : Option (Int32 × CS) := (f_84 M).bind fun r1319 => b_91_149 r1319
theorem tb_91_119 (L : Nat) (xs : Nat → Int32) (C : CS) (o : Nat → Int64) (c s : Nat) (M : CS) (d1 : Option Int32) (ret : Int32 × CS) (h : b_91_119 M = some ret) : mv_E (mp L xs) 91 (119, [some (.ref 18), d1.map .int], []) (HPf C M o, c, s) ((.inl (some (.int ret.1)), (HPf C ret.2 o, c, s))) := by
  unfold b_91_119 at h
  refine mv_E.rT (t := mt_91) rfl 1 (f' := (120, [some (.ref 18), d1.map .int], [.ref 18])) (h' := (HPf C M o, c, s)) rfl ?_
  obtain ⟨r1321, hr1322, h⟩ := Option.bind_eq_some_iff.mp h
  refine mv_E.call (z := 84) (vs := [.ref 18]) (f' := (123, [some (.ref 18), d1.map .int], [])) (h' := (HPf C M o, c, s)) rfl rfl rfl (t_84 L xs hr1322) (mv_okl rfl) ?_
  refine mv_E.rT (t := mt_91) rfl 1 (f' := (149, [some (.ref 18), d1.map .int], [])) (h' := (HPf C r1321 o, c, s)) rfl ?_
  exact tb_91_149 L xs C o c s r1321 d1 _ h
def b_91_138 (M : CS) : Option (Int32 × CS) := (f_86 M).bind fun r1427 => b_91_149 r1427
theorem tb_91_138 (L : Nat) (xs : Nat → Int32) (C : CS) (o : Nat → Int64) (c s : Nat) (M : CS) (d1 : Option Int32) (ret : Int32 × CS) (h : b_91_138 M = some ret) : mv_E (mp L xs) 91 (138, [some (.ref 18), d1.map .int], []) (HPf C M o, c, s) ((.inl (some (.int ret.1)), (HPf C ret.2 o, c, s))) := by
  unfold b_91_138 at h
  refine mv_E.rT (t := mt_91) rfl 1 (f' := (139, [some (.ref 18), d1.map .int], [.ref 18])) (h' := (HPf C M o, c, s)) rfl ?_
  obtain ⟨r1429, hr1430, h⟩ := Option.bind_eq_some_iff.mp h
  refine mv_E.call (z := 86) (vs := [.ref 18]) (f' := (142, [some (.ref 18), d1.map .int], [])) (h' := (HPf C M o, c, s)) rfl rfl rfl (t_86 L xs hr1430) (mv_okl rfl) ?_
  refine mv_E.rT (t := mt_91) rfl 1 (f' := (149, [some (.ref 18), d1.map .int], [])) (h' := (HPf C r1429 o, c, s)) rfl ?_
  exact tb_91_149 L xs C o c s r1429 d1 _ h
def b_91_126 (M : CS) (l1 : Int32) : Option (Int32 × CS) := (if l1 = 34 then b_91_138 M else (if ¬ l1 = 39 then (f_90 M).bind fun r1716 => b_91_149 r1716 else b_91_138 M))
theorem tb_91_126 (L : Nat) (xs : Nat → Int32) (C : CS) (o : Nat → Int64) (c s : Nat) (M : CS) (l1 : Int32) (ret : Int32 × CS) (h : b_91_126 M l1 = some ret) : mv_E (mp L xs) 91 (126, [some (.ref 18), some (.int l1)], []) (HPf C M o, c, s) ((.inl (some (.int ret.1)), (HPf C ret.2 o, c, s))) := by
  unfold b_91_126 at h
  refine mv_E.rT (t := mt_91) rfl 2 (f' := (129, [some (.ref 18), some (.int l1)], [.int 34, .int l1])) (h' := (HPf C M o, c, s)) rfl ?_
  by_cases hc1723 : l1 = 34
  · replace h := (if_pos hc1723).symm.trans h
    refine mv_E.go rfl (mi_icmp_pos hc1723) ?_
    show mv_E (mp L xs) 91 (138, [some (.ref 18), some (.int l1)], []) (HPf C M o, c, s) _
    exact tb_91_138 L xs C o c s M (some l1) _ h
  replace h := (if_neg hc1723).symm.trans h
  refine mv_E.go rfl (mi_icmp_neg hc1723) ?_
  refine mv_E.rT (t := mt_91) rfl 2 (f' := (135, [some (.ref 18), some (.int l1)], [.int 39, .int l1])) (h' := (HPf C M o, c, s)) rfl ?_
  by_cases hc1722 : ¬ l1 = 39
  · replace h := (if_pos hc1722).symm.trans h
    refine mv_E.go rfl (mi_icmp_pos hc1722) ?_
    refine mv_E.rT (t := mt_91) rfl 1 (f' := (146, [some (.ref 18), some (.int l1)], [.ref 18])) (h' := (HPf C M o, c, s)) rfl ?_
    obtain ⟨r1720, hr1721, h⟩ := Option.bind_eq_some_iff.mp h
    refine mv_E.call (z := 90) (vs := [.ref 18]) (f' := (149, [some (.ref 18), some (.int l1)], [])) (h' := (HPf C M o, c, s)) rfl rfl rfl (t_90 L xs hr1721) (mv_okl rfl) ?_
    show mv_E (mp L xs) 91 (149, [some (.ref 18), some (.int l1)], []) (HPf C r1720 o, c, s) _
    exact tb_91_149 L xs C o c s r1720 (some l1) _ h
  replace h := (if_neg hc1722).symm.trans h
  refine mv_E.go rfl (mi_icmp_neg hc1722) ?_
  show mv_E (mp L xs) 91 (138, [some (.ref 18), some (.int l1)], []) (HPf C M o, c, s) _
  exact tb_91_138 L xs C o c s M (some l1) _ h
def f_91 (M : CS) : Option (Int32 × CS) := (f_71 (ru (M.1) 4 ((-1)), M.2)).bind fun r939 => (if (r939.1 4) < 0 then (f_66 (ru (ru (ru (ru (ru (r939.1) 12 (0)) 9 ((-1))) 10 (0)) 11 (0)) 7 (r939.1 5), r939.2) (r939.1 5)).bind fun r941 => (if 0 ≤ r941 then (if ¬ (f_73 r941) = 0 then b_91_83 (ru (ru (ru (ru (ru (r939.1) 12 (0)) 9 ((-1))) 10 (0)) 11 (0)) 7 (r939.1 5), r939.2) else (if ¬ r941 = 92 then (if ¬ (f_74 r941) = 0 then b_91_119 (ru (ru (ru (ru (ru (r939.1) 12 (0)) 9 ((-1))) 10 (0)) 11 (0)) 7 (r939.1 5), r939.2) else (if ¬ r941 = 46 then b_91_126 (ru (ru (ru (ru (ru (r939.1) 12 (0)) 9 ((-1))) 10 (0)) 11 (0)) 7 (r939.1 5), r939.2) r941 else (f_66 (ru (ru (ru (ru (ru (r939.1) 12 (0)) 9 ((-1))) 10 (0)) 11 (0)) 7 (r939.1 5), r939.2) ((r939.1 5) + 1)).bind fun r1724 => (if (f_74 r1724) = 0 then b_91_126 (ru (ru (ru (ru (ru (r939.1) 12 (0)) 9 ((-1))) 10 (0)) 11 (0)) 7 (r939.1 5), r939.2) r941 else b_91_119 (ru (ru (ru (ru (ru (r939.1) 12 (0)) 9 ((-1))) 10 (0)) 11 (0)) 7 (r939.1 5), r939.2)))) else b_91_83 (ru (ru (ru (ru (ru (r939.1) 12 (0)) 9 ((-1))) 10 (0)) 11 (0)) 7 (r939.1 5), r939.2))) else b_91_149 (ru (ru (ru (ru (ru (ru (r939.1) 12 (0)) 9 ((-1))) 10 (0)) 11 (0)) 7 (r939.1 5)) 6 (0), r939.2)) else (f_72 (ru (ru (ru (ru (ru (r939.1) 12 (0)) 9 ((-1))) 10 (0)) 11 (0)) 7 (r939.1 5), r939.2)).bind fun r1732 => some (r1732.1, r1732.2))
theorem t_91 (L : Nat) (xs : Nat → Int32) {C M : CS} {o : Nat → Int64} {c s : Nat} {ret : Int32 × CS} (h : f_91 M = some ret) : mv_E (mp L xs) 91 (0, [some (.ref 18), none], []) (HPf C M o, c, s) ((.inl (some (.int ret.1)), (HPf C ret.2 o, c, s))) := by
  unfold f_91 at h
  refine mv_E.rT (t := mt_91) rfl 4 (f' := (6, [some (.ref 18), none], [.ref 18])) (h' := (HPf C (ru (M.1) 4 ((-1)), M.2) o, c, s)) rfl ?_
  obtain ⟨r939, hr940, h⟩ := Option.bind_eq_some_iff.mp h
  refine mv_E.call (z := 71) (vs := [.ref 18]) (f' := (9, [some (.ref 18), none], [])) (h' := (HPf C (ru (M.1) 4 ((-1)), M.2) o, c, s)) rfl rfl rfl (t_71 L xs hr940) (mv_okl rfl) ?_
  refine mv_E.rT (t := mt_91) rfl 18 (f' := (41, [some (.ref 18), none], [.int (r939.1 4)])) (h' := (HPf C (ru (ru (ru (ru (ru (r939.1) 12 (0)) 9 ((-1))) 10 (0)) 11 (0)) 7 (r939.1 5), r939.2) o, c, s)) rfl ?_
  by_cases hc1734 : (r939.1 4) < 0
  · replace h := (if_pos hc1734).symm.trans h
    refine mv_E.go rfl (mi_if_pos hc1734) ?_
    refine mv_E.rT (t := mt_91) rfl 3 (f' := (54, [some (.ref 18), none], [.int (r939.1 5), .ref 18])) (h' := (HPf C (ru (ru (ru (ru (ru (r939.1) 12 (0)) 9 ((-1))) 10 (0)) 11 (0)) 7 (r939.1 5), r939.2) o, c, s)) rfl ?_
    obtain ⟨r941, hr942, h⟩ := Option.bind_eq_some_iff.mp h
    refine mv_E.call (z := 66) (vs := [.ref 18, .int (r939.1 5)]) (f' := (57, [some (.ref 18), none], [])) (h' := (HPf C (ru (ru (ru (ru (ru (r939.1) 12 (0)) 9 ((-1))) 10 (0)) 11 (0)) 7 (r939.1 5), r939.2) o, c, s)) rfl rfl rfl (t_66 L xs hr942) (mv_okl rfl) ?_
    refine mv_E.rT (t := mt_91) rfl 2 (f' := (59, [some (.ref 18), some (.int r941)], [.int r941])) (h' := (HPf C (ru (ru (ru (ru (ru (r939.1) 12 (0)) 9 ((-1))) 10 (0)) 11 (0)) 7 (r939.1 5), r939.2) o, c, s)) rfl ?_
    by_cases hc1731 : 0 ≤ r941
    · replace h := (if_pos hc1731).symm.trans h
      refine mv_E.go rfl (mi_if_pos hc1731) ?_
      refine mv_E.rT (t := mt_91) rfl 1 (f' := (71, [some (.ref 18), some (.int r941)], [.int r941])) (h' := (HPf C (ru (ru (ru (ru (ru (r939.1) 12 (0)) 9 ((-1))) 10 (0)) 11 (0)) 7 (r939.1 5), r939.2) o, c, s)) rfl ?_
      refine mv_E.call (z := 73) (vs := [.int r941]) (f' := (74, [some (.ref 18), some (.int r941)], [])) (h' := (HPf C (ru (ru (ru (ru (ru (r939.1) 12 (0)) 9 ((-1))) 10 (0)) 11 (0)) 7 (r939.1 5), r939.2) o, c, s)) rfl rfl rfl (t_73 L xs rfl) (mv_okl rfl) ?_
      show mv_E (mp L xs) 91 (74, [some (.ref 18), some (.int r941)], [.int (f_73 r941)]) (HPf C (ru (ru (ru (ru (ru (r939.1) 12 (0)) 9 ((-1))) 10 (0)) 11 (0)) 7 (r939.1 5), r939.2) o, c, s) _
      by_cases hc1730 : ¬ (f_73 r941) = 0
      · replace h := (if_pos hc1730).symm.trans h
        refine mv_E.go rfl (mi_if_pos hc1730) ?_
        show mv_E (mp L xs) 91 (83, [some (.ref 18), some (.int r941)], []) (HPf C (ru (ru (ru (ru (ru (r939.1) 12 (0)) 9 ((-1))) 10 (0)) 11 (0)) 7 (r939.1 5), r939.2) o, c, s) _
        exact tb_91_83 L xs C o c s (ru (ru (ru (ru (ru (r939.1) 12 (0)) 9 ((-1))) 10 (0)) 11 (0)) 7 (r939.1 5), r939.2) (some r941) _ h
      replace h := (if_neg hc1730).symm.trans h
      refine mv_E.go rfl (mi_if_neg hc1730) ?_
      refine mv_E.rT (t := mt_91) rfl 2 (f' := (80, [some (.ref 18), some (.int r941)], [.int 92, .int r941])) (h' := (HPf C (ru (ru (ru (ru (ru (r939.1) 12 (0)) 9 ((-1))) 10 (0)) 11 (0)) 7 (r939.1 5), r939.2) o, c, s)) rfl ?_
      by_cases hc1729 : ¬ r941 = 92
      · replace h := (if_pos hc1729).symm.trans h
        refine mv_E.go rfl (mi_icmp_pos hc1729) ?_
        refine mv_E.rT (t := mt_91) rfl 1 (f' := (91, [some (.ref 18), some (.int r941)], [.int r941])) (h' := (HPf C (ru (ru (ru (ru (ru (r939.1) 12 (0)) 9 ((-1))) 10 (0)) 11 (0)) 7 (r939.1 5), r939.2) o, c, s)) rfl ?_
        refine mv_E.call (z := 74) (vs := [.int r941]) (f' := (94, [some (.ref 18), some (.int r941)], [])) (h' := (HPf C (ru (ru (ru (ru (ru (r939.1) 12 (0)) 9 ((-1))) 10 (0)) 11 (0)) 7 (r939.1 5), r939.2) o, c, s)) rfl rfl rfl (t_74 L xs rfl) (mv_okl rfl) ?_
        show mv_E (mp L xs) 91 (94, [some (.ref 18), some (.int r941)], [.int (f_74 r941)]) (HPf C (ru (ru (ru (ru (ru (r939.1) 12 (0)) 9 ((-1))) 10 (0)) 11 (0)) 7 (r939.1 5), r939.2) o, c, s) _
        by_cases hc1728 : ¬ (f_74 r941) = 0
        · replace h := (if_pos hc1728).symm.trans h
          refine mv_E.go rfl (mi_if_pos hc1728) ?_
          show mv_E (mp L xs) 91 (119, [some (.ref 18), some (.int r941)], []) (HPf C (ru (ru (ru (ru (ru (r939.1) 12 (0)) 9 ((-1))) 10 (0)) 11 (0)) 7 (r939.1 5), r939.2) o, c, s) _
          exact tb_91_119 L xs C o c s (ru (ru (ru (ru (ru (r939.1) 12 (0)) 9 ((-1))) 10 (0)) 11 (0)) 7 (r939.1 5), r939.2) (some r941) _ h
        replace h := (if_neg hc1728).symm.trans h
        refine mv_E.go rfl (mi_if_neg hc1728) ?_
        refine mv_E.rT (t := mt_91) rfl 2 (f' := (100, [some (.ref 18), some (.int r941)], [.int 46, .int r941])) (h' := (HPf C (ru (ru (ru (ru (ru (r939.1) 12 (0)) 9 ((-1))) 10 (0)) 11 (0)) 7 (r939.1 5), r939.2) o, c, s)) rfl ?_
        by_cases hc1727 : ¬ r941 = 46
        · replace h := (if_pos hc1727).symm.trans h
          refine mv_E.go rfl (mi_icmp_pos hc1727) ?_
          show mv_E (mp L xs) 91 (126, [some (.ref 18), some (.int r941)], []) (HPf C (ru (ru (ru (ru (ru (r939.1) 12 (0)) 9 ((-1))) 10 (0)) 11 (0)) 7 (r939.1 5), r939.2) o, c, s) _
          exact tb_91_126 L xs C o c s (ru (ru (ru (ru (ru (r939.1) 12 (0)) 9 ((-1))) 10 (0)) 11 (0)) 7 (r939.1 5), r939.2) r941 _ h
        replace h := (if_neg hc1727).symm.trans h
        refine mv_E.go rfl (mi_icmp_neg hc1727) ?_
        refine mv_E.rT (t := mt_91) rfl 5 (f' := (110, [some (.ref 18), some (.int r941)], [.int ((r939.1 5) + 1), .ref 18])) (h' := (HPf C (ru (ru (ru (ru (ru (r939.1) 12 (0)) 9 ((-1))) 10 (0)) 11 (0)) 7 (r939.1 5), r939.2) o, c, s)) rfl ?_
        obtain ⟨r1724, hr1725, h⟩ := Option.bind_eq_some_iff.mp h
        refine mv_E.call (z := 66) (vs := [.ref 18, .int ((r939.1 5) + 1)]) (f' := (113, [some (.ref 18), some (.int r941)], [])) (h' := (HPf C (ru (ru (ru (ru (ru (r939.1) 12 (0)) 9 ((-1))) 10 (0)) 11 (0)) 7 (r939.1 5), r939.2) o, c, s)) rfl rfl rfl (t_66 L xs hr1725) (mv_okl rfl) ?_
        show mv_E (mp L xs) 91 (113, [some (.ref 18), some (.int r941)], [.int r1724]) (HPf C (ru (ru (ru (ru (ru (r939.1) 12 (0)) 9 ((-1))) 10 (0)) 11 (0)) 7 (r939.1 5), r939.2) o, c, s) _
        refine mv_E.call (z := 74) (vs := [.int r1724]) (f' := (116, [some (.ref 18), some (.int r941)], [])) (h' := (HPf C (ru (ru (ru (ru (ru (r939.1) 12 (0)) 9 ((-1))) 10 (0)) 11 (0)) 7 (r939.1 5), r939.2) o, c, s)) rfl rfl rfl (t_74 L xs rfl) (mv_okl rfl) ?_
        show mv_E (mp L xs) 91 (116, [some (.ref 18), some (.int r941)], [.int (f_74 r1724)]) (HPf C (ru (ru (ru (ru (ru (r939.1) 12 (0)) 9 ((-1))) 10 (0)) 11 (0)) 7 (r939.1 5), r939.2) o, c, s) _
        by_cases hc1726 : (f_74 r1724) = 0
        · replace h := (if_pos hc1726).symm.trans h
          refine mv_E.go rfl (mi_if_pos hc1726) ?_
          show mv_E (mp L xs) 91 (126, [some (.ref 18), some (.int r941)], []) (HPf C (ru (ru (ru (ru (ru (r939.1) 12 (0)) 9 ((-1))) 10 (0)) 11 (0)) 7 (r939.1 5), r939.2) o, c, s) _
          exact tb_91_126 L xs C o c s (ru (ru (ru (ru (ru (r939.1) 12 (0)) 9 ((-1))) 10 (0)) 11 (0)) 7 (r939.1 5), r939.2) r941 _ h
        replace h := (if_neg hc1726).symm.trans h
        refine mv_E.go rfl (mi_if_neg hc1726) ?_
        show mv_E (mp L xs) 91 (119, [some (.ref 18), some (.int r941)], []) (HPf C (ru (ru (ru (ru (ru (r939.1) 12 (0)) 9 ((-1))) 10 (0)) 11 (0)) 7 (r939.1 5), r939.2) o, c, s) _
        exact tb_91_119 L xs C o c s (ru (ru (ru (ru (ru (r939.1) 12 (0)) 9 ((-1))) 10 (0)) 11 (0)) 7 (r939.1 5), r939.2) (some r941) _ h
      replace h := (if_neg hc1729).symm.trans h
      refine mv_E.go rfl (mi_icmp_neg hc1729) ?_
      show mv_E (mp L xs) 91 (83, [some (.ref 18), some (.int r941)], []) (HPf C (ru (ru (ru (ru (ru (r939.1) 12 (0)) 9 ((-1))) 10 (0)) 11 (0)) 7 (r939.1 5), r939.2) o, c, s) _
      exact tb_91_83 L xs C o c s (ru (ru (ru (ru (ru (r939.1) 12 (0)) 9 ((-1))) 10 (0)) 11 (0)) 7 (r939.1 5), r939.2) (some r941) _ h
    replace h := (if_neg hc1731).symm.trans h
    refine mv_E.go rfl (mi_if_neg hc1731) ?_
    refine mv_E.rT (t := mt_91) rfl 4 (f' := (149, [some (.ref 18), some (.int r941)], [])) (h' := (HPf C (ru (ru (ru (ru (ru (ru (r939.1) 12 (0)) 9 ((-1))) 10 (0)) 11 (0)) 7 (r939.1 5)) 6 (0), r939.2) o, c, s)) rfl ?_
    exact tb_91_149 L xs C o c s (ru (ru (ru (ru (ru (ru (r939.1) 12 (0)) 9 ((-1))) 10 (0)) 11 (0)) 7 (r939.1 5)) 6 (0), r939.2) (some r941) _ h
  replace h := (if_neg hc1734).symm.trans h
  refine mv_E.go rfl (mi_if_neg hc1734) ?_
  refine mv_E.rT (t := mt_91) rfl 1 (f' := (45, [some (.ref 18), none], [.ref 18])) (h' := (HPf C (ru (ru (ru (ru (ru (r939.1) 12 (0)) 9 ((-1))) 10 (0)) 11 (0)) 7 (r939.1 5), r939.2) o, c, s)) rfl ?_
  obtain ⟨r1732, hr1733, h⟩ := Option.bind_eq_some_iff.mp h
  refine mv_E.call (z := 72) (vs := [.ref 18]) (f' := (48, [some (.ref 18), none], [])) (h' := (HPf C (ru (ru (ru (ru (ru (r939.1) 12 (0)) 9 ((-1))) 10 (0)) 11 (0)) 7 (r939.1 5), r939.2) o, c, s)) rfl rfl rfl (t_72 L xs hr1733) (mv_okl rfl) ?_
  show mv_E (mp L xs) 91 (48, [some (.ref 18), none], [.int r1732.1]) (HPf C r1732.2 o, c, s) _
  cases h
  exact mv_E.done rfl rfl
def f_92 (M : CS) : Option (Int32 × CS) := (f_22 M 0 (M.1 2)).bind fun r863 => (if r863.1 = 0 then (f_91 (ru (ru (ru (ru (ru (r863.2.1) 2 (1)) 3 ((-1))) 13 (0)) 14 (0)) 5 (0), r863.2.2)).bind fun r1735 => some (r1735.1, r1735.2) else some (0, r863.2))
theorem t_92 (L : Nat) (xs : Nat → Int32) {C M : CS} {o : Nat → Int64} {c s : Nat} {ret : Int32 × CS} (h : f_92 M = some ret) : mv_E (mp L xs) 92 (0, [some (.ref 18)], []) (HPf C M o, c, s) ((.inl (some (.int ret.1)), (HPf C ret.2 o, c, s))) := by
  unfold f_92 at h
  refine mv_E.rT (t := mt_92) rfl 4 (f' := (6, [some (.ref 18)], [.int (M.1 2), .int 0, .ref 18])) (h' := (HPf C M o, c, s)) rfl ?_
  obtain ⟨r863, hr864, h⟩ := Option.bind_eq_some_iff.mp h
  refine mv_E.call (z := 22) (vs := [.ref 18, .int 0, .int (M.1 2)]) (f' := (9, [some (.ref 18)], [])) (h' := (HPf C M o, c, s)) rfl rfl rfl (t_22 L xs hr864) (mv_okl rfl) ?_
  show mv_E (mp L xs) 92 (9, [some (.ref 18)], [.int r863.1]) (HPf C r863.2 o, c, s) _
  by_cases hc1737 : r863.1 = 0
  · replace h := (if_pos hc1737).symm.trans h
    refine mv_E.go rfl (mi_if_pos hc1737) ?_
    refine mv_E.rT (t := mt_92) rfl 16 (f' := (40, [some (.ref 18)], [.ref 18])) (h' := (HPf C (ru (ru (ru (ru (ru (r863.2.1) 2 (1)) 3 ((-1))) 13 (0)) 14 (0)) 5 (0), r863.2.2) o, c, s)) rfl ?_
    obtain ⟨r1735, hr1736, h⟩ := Option.bind_eq_some_iff.mp h
    refine mv_E.call (z := 91) (vs := [.ref 18]) (f' := (43, [some (.ref 18)], [])) (h' := (HPf C (ru (ru (ru (ru (ru (r863.2.1) 2 (1)) 3 ((-1))) 13 (0)) 14 (0)) 5 (0), r863.2.2) o, c, s)) rfl rfl rfl (t_91 L xs hr1736) (mv_okl rfl) ?_
    show mv_E (mp L xs) 92 (43, [some (.ref 18)], [.int r1735.1]) (HPf C r1735.2 o, c, s) _
    cases h
    exact mv_E.done rfl rfl
  replace h := (if_neg hc1737).symm.trans h
  refine mv_E.go rfl (mi_if_neg hc1737) ?_
  refine mv_E.rT (t := mt_92) rfl 1 (f' := (13, [some (.ref 18)], [.int 0])) (h' := (HPf C r863.2 o, c, s)) rfl ?_
  cases h
  exact mv_E.done rfl rfl
def b_95_21 (M : CS) (s0 : Int32) (s1 : Int32) : Option (Int32 × CS) := (f_22 M s1 s0).bind fun r1738 => (if r1738.1 = 0 then (f_91 r1738.2).bind fun r1740 => some (r1740.1, r1740.2) else some (0, r1738.2))
theorem tb_95_21 (L : Nat) (xs : Nat → Int32) (C : CS) (o : Nat → Int64) (c s : Nat) (M : CS) (s0 : Int32) (s1 : Int32) (ret : Int32 × CS) (h : b_95_21 M s0 s1 = some ret) : mv_E (mp L xs) 95 (21, [some (.ref 18)], [.int s0, .int s1, .ref 18]) (HPf C M o, c, s) ((.inl (some (.int ret.1)), (HPf C ret.2 o, c, s))) := by
  unfold b_95_21 at h
  show mv_E (mp L xs) 95 (21, [some (.ref 18)], [.int s0, .int s1, .ref 18]) (HPf C M o, c, s) _
  obtain ⟨r1743, hr1744, h⟩ := Option.bind_eq_some_iff.mp h
  refine mv_E.call (z := 22) (vs := [.ref 18, .int s1, .int s0]) (f' := (24, [some (.ref 18)], [])) (h' := (HPf C M o, c, s)) rfl rfl rfl (t_22 L xs hr1744) (mv_okl rfl) ?_
  show mv_E (mp L xs) 95 (24, [some (.ref 18)], [.int r1743.1]) (HPf C r1743.2 o, c, s) _
  by_cases hc1747 : r1743.1 = 0
  · replace h := (if_pos hc1747).symm.trans h
    refine mv_E.go rfl (mi_if_pos hc1747) ?_
    refine mv_E.rT (t := mt_95) rfl 1 (f' := (30, [some (.ref 18)], [.ref 18])) (h' := (HPf C r1743.2 o, c, s)) rfl ?_
    obtain ⟨r1745, hr1746, h⟩ := Option.bind_eq_some_iff.mp h
    refine mv_E.call (z := 91) (vs := [.ref 18]) (f' := (33, [some (.ref 18)], [])) (h' := (HPf C r1743.2 o, c, s)) rfl rfl rfl (t_91 L xs hr1746) (mv_okl rfl) ?_
    show mv_E (mp L xs) 95 (33, [some (.ref 18)], [.int r1745.1]) (HPf C r1745.2 o, c, s) _
    cases h
    exact mv_E.done rfl rfl
  replace h := (if_neg hc1747).symm.trans h
  refine mv_E.go rfl (mi_if_neg hc1747) ?_
  refine mv_E.rT (t := mt_95) rfl 1 (f' := (28, [some (.ref 18)], [.int 0])) (h' := (HPf C r1743.2 o, c, s)) rfl ?_
  cases h
  exact mv_E.done rfl rfl
def b_95_16 (M : CS) (s0 : Int32) : Option (Int32 × CS) := b_95_21 M 1 s0
theorem tb_95_16 (L : Nat) (xs : Nat → Int32) (C : CS) (o : Nat → Int64) (c s : Nat) (M : CS) (s0 : Int32) (ret : Int32 × CS) (h : b_95_16 M s0 = some ret) : mv_E (mp L xs) 95 (16, [some (.ref 18)], [.int s0, .ref 18]) (HPf C M o, c, s) ((.inl (some (.int ret.1)), (HPf C ret.2 o, c, s))) := by
  unfold b_95_16 at h
  refine mv_E.rT (t := mt_95) rfl 2 (f' := (21, [some (.ref 18)], [.int 1, .int s0, .ref 18])) (h' := (HPf C M o, c, s)) rfl ?_
  exact tb_95_21 L xs C o c s M 1 s0 _ h
def f_95 (M : CS) : Option (Int32 × CS) := (if (M.1 2) = 0 then b_95_16 M 0 else (if ¬ (M.1 6) = 0 then b_95_21 M 0 0 else b_95_16 M 0))
theorem t_95 (L : Nat) (xs : Nat → Int32) {C M : CS} {o : Nat → Int64} {c s : Nat} {ret : Int32 × CS} (h : f_95 M = some ret) : mv_E (mp L xs) 95 (0, [some (.ref 18)], []) (HPf C M o, c, s) ((.inl (some (.int ret.1)), (HPf C ret.2 o, c, s))) := by
  unfold f_95 at h
  refine mv_E.rT (t := mt_95) rfl 4 (f' := (6, [some (.ref 18)], [.int (M.1 2), .int 0, .ref 18])) (h' := (HPf C M o, c, s)) rfl ?_
  by_cases hc1749 : (M.1 2) = 0
  · replace h := (if_pos hc1749).symm.trans h
    refine mv_E.go rfl (mi_if_pos hc1749) ?_
    show mv_E (mp L xs) 95 (16, [some (.ref 18)], [.int 0, .ref 18]) (HPf C M o, c, s) _
    exact tb_95_16 L xs C o c s M 0 _ h
  replace h := (if_neg hc1749).symm.trans h
  refine mv_E.go rfl (mi_if_neg hc1749) ?_
  refine mv_E.rT (t := mt_95) rfl 2 (f' := (13, [some (.ref 18)], [.int (M.1 6), .int 0, .ref 18])) (h' := (HPf C M o, c, s)) rfl ?_
  by_cases hc1748 : ¬ (M.1 6) = 0
  · replace h := (if_pos hc1748).symm.trans h
    refine mv_E.go rfl (mi_if_pos hc1748) ?_
    refine mv_E.rT (t := mt_95) rfl 1 (f' := (21, [some (.ref 18)], [.int 0, .int 0, .ref 18])) (h' := (HPf C M o, c, s)) rfl ?_
    exact tb_95_21 L xs C o c s M 0 0 _ h
  replace h := (if_neg hc1748).symm.trans h
  refine mv_E.go rfl (mi_if_neg hc1748) ?_
  show mv_E (mp L xs) 95 (16, [some (.ref 18)], [.int 0, .ref 18]) (HPf C M o, c, s) _
  exact tb_95_16 L xs C o c s M 0 _ h
def b_100_172 (k_144 : CS → Option (CS)) (M : CS) : Option (CS) := k_144 (ru (M.1) 5 (((M.1 5) + 1)), M.2)
theorem tb_100_172 (L : Nat) (xs : Nat → Int32) (C : CS) (o : Nat → Int64) (c s : Nat) (M : CS) (k_144 : CS → Option (CS)) (hk_144 : ∀ (M : CS) (d1 : Option Int32) (d2 : Option Int32) (ret : CS), k_144 M = some ret → mv_E (mp L xs) 100 (144, [some (.ref 18), d1.map .int, d2.map .int], []) (HPf C M o, c, s) ((.inl none, (HPf C ret o, c, s)))) (d1 : Option Int32) (d2 : Option Int32) (ret : CS) (h : b_100_172 k_144 M = some ret) : mv_E (mp L xs) 100 (172, [some (.ref 18), d1.map .int, d2.map .int], []) (HPf C M o, c, s) ((.inl none, (HPf C ret o, c, s))) := by
  unfold b_100_172 at h
  refine mv_E.rT (t := mt_100) rfl 7 (f' := (144, [some (.ref 18), d1.map .int, d2.map .int], [])) (h' := (HPf C (ru (M.1) 5 (((M.1 5) + 1)), M.2) o, c, s)) rfl ?_
  exact hk_144 (ru (M.1) 5 (((M.1 5) + 1)), M.2) d1 d2 _ h
def b_100_216 : Nat → CS → Int32 → Option (CS)
  | 0, _, _ => none
  | n + 1, M, l2 => (if (M.1 5) ≤ l2 then some M else (if 0 ≤ (M.1 4) then some M else if mv_in l2 2000 = true then (f_77 M ((M.2 0) l2.toNatClampNeg)).bind fun r1759 => (b_100_216 n) r1759 (l2 + 1) else none))
theorem tb_100_216 (L : Nat) (xs : Nat → Int32) (C : CS) (o : Nat → Int64) (c s : Nat) : ∀ (n : Nat) (M : CS) (l2 : Int32) (d1 : Option Int32) (ret : CS), b_100_216 n M l2 = some ret → mv_E (mp L xs) 100 (216, [some (.ref 18), d1.map .int, some (.int l2)], []) (HPf C M o, c, s) ((.inl none, (HPf C ret o, c, s))) := by
  intro n
  induction n with
  | zero => intro M l2 d1 ret h; rw [b_100_216] at h; cases h
  | succ n ih =>
    intro M l2 d1 ret h
    rw [b_100_216] at h
    rcases d1 with _ | d1
    · refine mv_E.rT (t := mt_100) rfl 3 (f' := (221, [some (.ref 18), none, some (.int l2)], [.int (M.1 5), .int l2])) (h' := (HPf C M o, c, s)) rfl ?_
      by_cases hc1767 : (M.1 5) ≤ l2
      · replace h := (if_pos hc1767).symm.trans h
        refine mv_E.go rfl (mi_icmp_pos hc1767) ?_
        show mv_E (mp L xs) 100 (247, [some (.ref 18), none, some (.int l2)], []) (HPf C M o, c, s) _
        cases h
        exact mv_E.done rfl rfl
      replace h := (if_neg hc1767).symm.trans h
      refine mv_E.go rfl (mi_icmp_neg hc1767) ?_
      refine mv_E.rT (t := mt_100) rfl 2 (f' := (228, [some (.ref 18), none, some (.int l2)], [.int (M.1 4)])) (h' := (HPf C M o, c, s)) rfl ?_
      by_cases hc1766 : 0 ≤ (M.1 4)
      · replace h := (if_pos hc1766).symm.trans h
        refine mv_E.go rfl (mi_if_pos hc1766) ?_
        show mv_E (mp L xs) 100 (247, [some (.ref 18), none, some (.int l2)], []) (HPf C M o, c, s) _
        cases h
        exact mv_E.done rfl rfl
      replace h := (if_neg hc1766).symm.trans h
      refine mv_E.go rfl (mi_if_neg hc1766) ?_
      refine mv_E.rT (t := mt_100) rfl 4 (f' := (237, [some (.ref 18), none, some (.int l2)], [.int l2, .ref 19, .ref 18])) (h' := (HPf C M o, c, s)) rfl ?_
      by_cases hb1763 : mv_in l2 2000 = true
      rotate_left
      · cases (if_neg hb1763).symm.trans h
      replace h := (if_pos hb1763).symm.trans h
      refine mv_E.go rfl (mi_iald_at rfl hb1763) ?_
      show mv_E (mp L xs) 100 (238, [some (.ref 18), none, some (.int l2)], [.int ((M.2 0) l2.toNatClampNeg), .ref 18]) (HPf C M o, c, s) _
      obtain ⟨r1764, hr1765, h⟩ := Option.bind_eq_some_iff.mp h
      refine mv_E.call (z := 77) (vs := [.ref 18, .int ((M.2 0) l2.toNatClampNeg)]) (f' := (241, [some (.ref 18), none, some (.int l2)], [])) (h' := (HPf C M o, c, s)) rfl rfl rfl (t_77 L xs hr1765) (mv_okl rfl) ?_
      refine mv_E.rT (t := mt_100) rfl 2 (f' := (216, [some (.ref 18), none, some (.int (l2 + 1))], [])) (h' := (HPf C r1764 o, c, s)) rfl ?_
      exact ih r1764 (l2 + 1) none _ h
    · refine mv_E.rT (t := mt_100) rfl 3 (f' := (221, [some (.ref 18), some (.int d1), some (.int l2)], [.int (M.1 5), .int l2])) (h' := (HPf C M o, c, s)) rfl ?_
      by_cases hc1772 : (M.1 5) ≤ l2
      · replace h := (if_pos hc1772).symm.trans h
        refine mv_E.go rfl (mi_icmp_pos hc1772) ?_
        show mv_E (mp L xs) 100 (247, [some (.ref 18), some (.int d1), some (.int l2)], []) (HPf C M o, c, s) _
        cases h
        exact mv_E.done rfl rfl
      replace h := (if_neg hc1772).symm.trans h
      refine mv_E.go rfl (mi_icmp_neg hc1772) ?_
      refine mv_E.rT (t := mt_100) rfl 2 (f' := (228, [some (.ref 18), some (.int d1), some (.int l2)], [.int (M.1 4)])) (h' := (HPf C M o, c, s)) rfl ?_
      by_cases hc1771 : 0 ≤ (M.1 4)
      · replace h := (if_pos hc1771).symm.trans h
        refine mv_E.go rfl (mi_if_pos hc1771) ?_
        show mv_E (mp L xs) 100 (247, [some (.ref 18), some (.int d1), some (.int l2)], []) (HPf C M o, c, s) _
        cases h
        exact mv_E.done rfl rfl
      replace h := (if_neg hc1771).symm.trans h
      refine mv_E.go rfl (mi_if_neg hc1771) ?_
      refine mv_E.rT (t := mt_100) rfl 4 (f' := (237, [some (.ref 18), some (.int d1), some (.int l2)], [.int l2, .ref 19, .ref 18])) (h' := (HPf C M o, c, s)) rfl ?_
      by_cases hb1768 : mv_in l2 2000 = true
      rotate_left
      · cases (if_neg hb1768).symm.trans h
      replace h := (if_pos hb1768).symm.trans h
      refine mv_E.go rfl (mi_iald_at rfl hb1768) ?_
      show mv_E (mp L xs) 100 (238, [some (.ref 18), some (.int d1), some (.int l2)], [.int ((M.2 0) l2.toNatClampNeg), .ref 18]) (HPf C M o, c, s) _
      obtain ⟨r1769, hr1770, h⟩ := Option.bind_eq_some_iff.mp h
      refine mv_E.call (z := 77) (vs := [.ref 18, .int ((M.2 0) l2.toNatClampNeg)]) (f' := (241, [some (.ref 18), some (.int d1), some (.int l2)], [])) (h' := (HPf C M o, c, s)) rfl rfl rfl (t_77 L xs hr1770) (mv_okl rfl) ?_
      refine mv_E.rT (t := mt_100) rfl 2 (f' := (216, [some (.ref 18), some (.int d1), some (.int (l2 + 1))], [])) (h' := (HPf C r1769 o, c, s)) rfl ?_
      exact ih r1769 (l2 + 1) (some d1) _ h
def b_100_206 (M : CS) : Option (CS) := b_100_216 fu (ru (M.1) 12 (0), M.2) (M.1 7)
theorem tb_100_206 (L : Nat) (xs : Nat → Int32) (C : CS) (o : Nat → Int64) (c s : Nat) (M : CS) (d1 : Option Int32) (d2 : Option Int32) (ret : CS) (h : b_100_206 M = some ret) : mv_E (mp L xs) 100 (206, [some (.ref 18), d1.map .int, d2.map .int], []) (HPf C M o, c, s) ((.inl none, (HPf C ret o, c, s))) := by
  unfold b_100_206 at h
  rcases d1 with _ | d1
  · refine mv_E.rT (t := mt_100) rfl 6 (f' := (216, [some (.ref 18), none, some (.int (M.1 7))], [])) (h' := (HPf C (ru (M.1) 12 (0), M.2) o, c, s)) rfl ?_
    exact tb_100_216 L xs C o c s fu (ru (M.1) 12 (0), M.2) (M.1 7) none _ h
  · refine mv_E.rT (t := mt_100) rfl 6 (f' := (216, [some (.ref 18), some (.int d1), some (.int (M.1 7))], [])) (h' := (HPf C (ru (M.1) 12 (0), M.2) o, c, s)) rfl ?_
    exact tb_100_216 L xs C o c s fu (ru (M.1) 12 (0), M.2) (M.1 7) (some d1) _ h
def b_100_144 : Nat → CS → Option (CS)
  | 0, _ => none
  | n + 1, M => (f_66 M (M.1 5)).bind fun r1752 => (if ¬ (f_73 r1752) = 0 then b_100_172 (b_100_144 n) M else (f_66 M (M.1 5)).bind fun r1754 => (if (f_74 r1754) = 0 then (f_66 M (M.1 5)).bind fun r1756 => (if ¬ r1756 = 92 then b_100_206 M else (f_69 M (M.1 5)).bind fun r1773 => b_100_206 r1773) else b_100_172 (b_100_144 n) M))
theorem tb_100_144 (L : Nat) (xs : Nat → Int32) (C : CS) (o : Nat → Int64) (c s : Nat) : ∀ (n : Nat) (M : CS)  (d1 : Option Int32) (d2 : Option Int32) (ret : CS), b_100_144 n M = some ret → mv_E (mp L xs) 100 (144, [some (.ref 18), d1.map .int, d2.map .int], []) (HPf C M o, c, s) ((.inl none, (HPf C ret o, c, s))) := by
  intro n
  induction n with
  | zero => intro M d1 d2 ret h; rw [b_100_144] at h; cases h
  | succ n ih =>
    intro M d1 d2 ret h
    rw [b_100_144] at h
    refine mv_E.rT (t := mt_100) rfl 3 (f' := (149, [some (.ref 18), d1.map .int, d2.map .int], [.int (M.1 5), .ref 18])) (h' := (HPf C M o, c, s)) rfl ?_
    obtain ⟨r1778, hr1779, h⟩ := Option.bind_eq_some_iff.mp h
    refine mv_E.call (z := 66) (vs := [.ref 18, .int (M.1 5)]) (f' := (152, [some (.ref 18), d1.map .int, d2.map .int], [])) (h' := (HPf C M o, c, s)) rfl rfl rfl (t_66 L xs hr1779) (mv_okl rfl) ?_
    show mv_E (mp L xs) 100 (152, [some (.ref 18), d1.map .int, d2.map .int], [.int r1778]) (HPf C M o, c, s) _
    refine mv_E.call (z := 73) (vs := [.int r1778]) (f' := (155, [some (.ref 18), d1.map .int, d2.map .int], [])) (h' := (HPf C M o, c, s)) rfl rfl rfl (t_73 L xs rfl) (mv_okl rfl) ?_
    show mv_E (mp L xs) 100 (155, [some (.ref 18), d1.map .int, d2.map .int], [.int (f_73 r1778)]) (HPf C M o, c, s) _
    by_cases hc1788 : ¬ (f_73 r1778) = 0
    · replace h := (if_pos hc1788).symm.trans h
      refine mv_E.go rfl (mi_if_pos hc1788) ?_
      show mv_E (mp L xs) 100 (172, [some (.ref 18), d1.map .int, d2.map .int], []) (HPf C M o, c, s) _
      exact tb_100_172 L xs C o c s M (b_100_144 n) ih d1 d2 _ h
    replace h := (if_neg hc1788).symm.trans h
    refine mv_E.go rfl (mi_if_neg hc1788) ?_
    refine mv_E.rT (t := mt_100) rfl 3 (f' := (163, [some (.ref 18), d1.map .int, d2.map .int], [.int (M.1 5), .ref 18])) (h' := (HPf C M o, c, s)) rfl ?_
    obtain ⟨r1780, hr1781, h⟩ := Option.bind_eq_some_iff.mp h
    refine mv_E.call (z := 66) (vs := [.ref 18, .int (M.1 5)]) (f' := (166, [some (.ref 18), d1.map .int, d2.map .int], [])) (h' := (HPf C M o, c, s)) rfl rfl rfl (t_66 L xs hr1781) (mv_okl rfl) ?_
    show mv_E (mp L xs) 100 (166, [some (.ref 18), d1.map .int, d2.map .int], [.int r1780]) (HPf C M o, c, s) _
    refine mv_E.call (z := 74) (vs := [.int r1780]) (f' := (169, [some (.ref 18), d1.map .int, d2.map .int], [])) (h' := (HPf C M o, c, s)) rfl rfl rfl (t_74 L xs rfl) (mv_okl rfl) ?_
    show mv_E (mp L xs) 100 (169, [some (.ref 18), d1.map .int, d2.map .int], [.int (f_74 r1780)]) (HPf C M o, c, s) _
    by_cases hc1787 : (f_74 r1780) = 0
    · replace h := (if_pos hc1787).symm.trans h
      refine mv_E.go rfl (mi_if_pos hc1787) ?_
      refine mv_E.rT (t := mt_100) rfl 3 (f' := (190, [some (.ref 18), d1.map .int, d2.map .int], [.int (M.1 5), .ref 18])) (h' := (HPf C M o, c, s)) rfl ?_
      obtain ⟨r1782, hr1783, h⟩ := Option.bind_eq_some_iff.mp h
      refine mv_E.call (z := 66) (vs := [.ref 18, .int (M.1 5)]) (f' := (193, [some (.ref 18), d1.map .int, d2.map .int], [])) (h' := (HPf C M o, c, s)) rfl rfl rfl (t_66 L xs hr1783) (mv_okl rfl) ?_
      refine mv_E.rT (t := mt_100) rfl 1 (f' := (195, [some (.ref 18), d1.map .int, d2.map .int], [.int 92, .int r1782])) (h' := (HPf C M o, c, s)) rfl ?_
      by_cases hc1786 : ¬ r1782 = 92
      · replace h := (if_pos hc1786).symm.trans h
        refine mv_E.go rfl (mi_icmp_pos hc1786) ?_
        show mv_E (mp L xs) 100 (206, [some (.ref 18), d1.map .int, d2.map .int], []) (HPf C M o, c, s) _
        exact tb_100_206 L xs C o c s M d1 d2 _ h
      replace h := (if_neg hc1786).symm.trans h
      refine mv_E.go rfl (mi_icmp_neg hc1786) ?_
      refine mv_E.rT (t := mt_100) rfl 3 (f' := (203, [some (.ref 18), d1.map .int, d2.map .int], [.int (M.1 5), .ref 18])) (h' := (HPf C M o, c, s)) rfl ?_
      obtain ⟨r1784, hr1785, h⟩ := Option.bind_eq_some_iff.mp h
      refine mv_E.call (z := 69) (vs := [.ref 18, .int (M.1 5)]) (f' := (206, [some (.ref 18), d1.map .int, d2.map .int], [])) (h' := (HPf C M o, c, s)) rfl rfl rfl (t_69 L xs hr1785) (mv_okl rfl) ?_
      show mv_E (mp L xs) 100 (206, [some (.ref 18), d1.map .int, d2.map .int], []) (HPf C r1784 o, c, s) _
      exact tb_100_206 L xs C o c s r1784 d1 d2 _ h
    replace h := (if_neg hc1787).symm.trans h
    refine mv_E.go rfl (mi_if_neg hc1787) ?_
    show mv_E (mp L xs) 100 (172, [some (.ref 18), d1.map .int, d2.map .int], []) (HPf C M o, c, s) _
    exact tb_100_172 L xs C o c s M (b_100_144 n) ih d1 d2 _ h
def b_100_134 (M : CS) : Option (CS) := b_100_144 fu (ru (M.1) 5 (((M.1 5) + 1)), M.2)
theorem tb_100_134 (L : Nat) (xs : Nat → Int32) (C : CS) (o : Nat → Int64) (c s : Nat) (M : CS) (d1 : Option Int32) (d2 : Option Int32) (ret : CS) (h : b_100_134 M = some ret) : mv_E (mp L xs) 100 (134, [some (.ref 18), d1.map .int, d2.map .int], []) (HPf C M o, c, s) ((.inl none, (HPf C ret o, c, s))) := by
  unfold b_100_134 at h
  refine mv_E.rT (t := mt_100) rfl 6 (f' := (144, [some (.ref 18), d1.map .int, d2.map .int], [])) (h' := (HPf C (ru (M.1) 5 (((M.1 5) + 1)), M.2) o, c, s)) rfl ?_
  exact tb_100_144 L xs C o c s fu (ru (M.1) 5 (((M.1 5) + 1)), M.2) d1 d2 _ h
def b_100_121 (k_22 : CS → Int32 → Option (CS)) (M : CS) (l1 : Int32) : Option (CS) := k_22 (ru (M.1) 5 (((M.1 5) + 1)), M.2) l1
theorem tb_100_121 (L : Nat) (xs : Nat → Int32) (C : CS) (o : Nat → Int64) (c s : Nat) (M : CS) (k_22 : CS → Int32 → Option (CS)) (hk_22 : ∀ (M : CS) (l1 : Int32) (d2 : Option Int32) (ret : CS), k_22 M l1 = some ret → mv_E (mp L xs) 100 (22, [some (.ref 18), some (.int l1), d2.map .int], []) (HPf C M o, c, s) ((.inl none, (HPf C ret o, c, s)))) (l1 : Int32) (d2 : Option Int32) (ret : CS) (h : b_100_121 k_22 M l1 = some ret) : mv_E (mp L xs) 100 (121, [some (.ref 18), some (.int l1), d2.map .int], []) (HPf C M o, c, s) ((.inl none, (HPf C ret o, c, s))) := by
  unfold b_100_121 at h
  refine mv_E.rT (t := mt_100) rfl 7 (f' := (22, [some (.ref 18), some (.int l1), d2.map .int], [])) (h' := (HPf C (ru (M.1) 5 (((M.1 5) + 1)), M.2) o, c, s)) rfl ?_
  exact hk_22 (ru (M.1) 5 (((M.1 5) + 1)), M.2) l1 d2 _ h
def b_100_113 (k_22 : CS → Int32 → Option (CS)) (M : CS) (l1 : Int32) : Option (CS) := (f_69 M (M.1 5)).bind fun r1791 => b_100_121 k_22 r1791 l1
theorem tb_100_113 (L : Nat) (xs : Nat → Int32) (C : CS) (o : Nat → Int64) (c s : Nat) (M : CS) (k_22 : CS → Int32 → Option (CS)) (hk_22 : ∀ (M : CS) (l1 : Int32) (d2 : Option Int32) (ret : CS), k_22 M l1 = some ret → mv_E (mp L xs) 100 (22, [some (.ref 18), some (.int l1), d2.map .int], []) (HPf C M o, c, s) ((.inl none, (HPf C ret o, c, s)))) (l1 : Int32) (d2 : Option Int32) (ret : CS) (h : b_100_113 k_22 M l1 = some ret) : mv_E (mp L xs) 100 (113, [some (.ref 18), some (.int l1), d2.map .int], []) (HPf C M o, c, s) ((.inl none, (HPf C ret o, c, s))) := by
  unfold b_100_113 at h
  refine mv_E.rT (t := mt_100) rfl 3 (f' := (118, [some (.ref 18), some (.int l1), d2.map .int], [.int (M.1 5), .ref 18])) (h' := (HPf C M o, c, s)) rfl ?_
  obtain ⟨r1793, hr1794, h⟩ := Option.bind_eq_some_iff.mp h
  refine mv_E.call (z := 69) (vs := [.ref 18, .int (M.1 5)]) (f' := (121, [some (.ref 18), some (.int l1), d2.map .int], [])) (h' := (HPf C M o, c, s)) rfl rfl rfl (t_69 L xs hr1794) (mv_okl rfl) ?_
  show mv_E (mp L xs) 100 (121, [some (.ref 18), some (.int l1), d2.map .int], []) (HPf C r1793 o, c, s) _
  exact tb_100_121 L xs C o c s r1793 k_22 hk_22 l1 d2 _ h
def b_100_102 (k_22 : CS → Int32 → Option (CS)) (M : CS) (l1 : Int32) (l2 : Int32) : Option (CS) := (if l2 < 0 then b_100_113 k_22 M l1 else (if (f_68 l2) = 0 then b_100_121 k_22 M l1 else b_100_113 k_22 M l1))
theorem tb_100_102 (L : Nat) (xs : Nat → Int32) (C : CS) (o : Nat → Int64) (c s : Nat) (M : CS) (k_22 : CS → Int32 → Option (CS)) (hk_22 : ∀ (M : CS) (l1 : Int32) (d2 : Option Int32) (ret : CS), k_22 M l1 = some ret → mv_E (mp L xs) 100 (22, [some (.ref 18), some (.int l1), d2.map .int], []) (HPf C M o, c, s) ((.inl none, (HPf C ret o, c, s)))) (l1 : Int32) (l2 : Int32) (ret : CS) (h : b_100_102 k_22 M l1 l2 = some ret) : mv_E (mp L xs) 100 (102, [some (.ref 18), some (.int l1), some (.int l2)], []) (HPf C M o, c, s) ((.inl none, (HPf C ret o, c, s))) := by
  unfold b_100_102 at h
  refine mv_E.rT (t := mt_100) rfl 1 (f' := (103, [some (.ref 18), some (.int l1), some (.int l2)], [.int l2])) (h' := (HPf C M o, c, s)) rfl ?_
  by_cases hc1798 : l2 < 0
  · replace h := (if_pos hc1798).symm.trans h
    refine mv_E.go rfl (mi_if_pos hc1798) ?_
    show mv_E (mp L xs) 100 (113, [some (.ref 18), some (.int l1), some (.int l2)], []) (HPf C M o, c, s) _
    exact tb_100_113 L xs C o c s M k_22 hk_22 l1 (some l2) _ h
  replace h := (if_neg hc1798).symm.trans h
  refine mv_E.go rfl (mi_if_neg hc1798) ?_
  refine mv_E.rT (t := mt_100) rfl 1 (f' := (107, [some (.ref 18), some (.int l1), some (.int l2)], [.int l2])) (h' := (HPf C M o, c, s)) rfl ?_
  refine mv_E.call (z := 68) (vs := [.int l2]) (f' := (110, [some (.ref 18), some (.int l1), some (.int l2)], [])) (h' := (HPf C M o, c, s)) rfl rfl rfl (t_68 L xs rfl) (mv_okl rfl) ?_
  show mv_E (mp L xs) 100 (110, [some (.ref 18), some (.int l1), some (.int l2)], [.int (f_68 l2)]) (HPf C M o, c, s) _
  by_cases hc1797 : (f_68 l2) = 0
  · replace h := (if_pos hc1797).symm.trans h
    refine mv_E.go rfl (mi_if_pos hc1797) ?_
    show mv_E (mp L xs) 100 (121, [some (.ref 18), some (.int l1), some (.int l2)], []) (HPf C M o, c, s) _
    exact tb_100_121 L xs C o c s M k_22 hk_22 l1 (some l2) _ h
  replace h := (if_neg hc1797).symm.trans h
  refine mv_E.go rfl (mi_if_neg hc1797) ?_
  show mv_E (mp L xs) 100 (113, [some (.ref 18), some (.int l1), some (.int l2)], []) (HPf C M o, c, s) _
  exact tb_100_113 L xs C o c s M k_22 hk_22 l1 (some l2) _ h
def b_100_76 (k_22 : CS → Int32 → Option (CS)) (M : CS) (l2 : Int32) (s0 : Int32) : Option (CS) := (if ¬ l2 = 92 then b_100_102 k_22 M s0 l2 else (f_66 (ru (M.1) 5 (((M.1 5) + 1)), M.2) ((M.1 5) + 1)).bind fun r1799 => b_100_102 k_22 (ru (M.1) 5 (((M.1 5) + 1)), M.2) s0 r1799)
theorem tb_100_76 (L : Nat) (xs : Nat → Int32) (C : CS) (o : Nat → Int64) (c s : Nat) (M : CS) (k_22 : CS → Int32 → Option (CS)) (hk_22 : ∀ (M : CS) (l1 : Int32) (d2 : Option Int32) (ret : CS), k_22 M l1 = some ret → mv_E (mp L xs) 100 (22, [some (.ref 18), some (.int l1), d2.map .int], []) (HPf C M o, c, s) ((.inl none, (HPf C ret o, c, s)))) (l2 : Int32) (s0 : Int32) (d1 : Option Int32) (ret : CS) (h : b_100_76 k_22 M l2 s0 = some ret) : mv_E (mp L xs) 100 (76, [some (.ref 18), d1.map .int, some (.int l2)], [.int s0]) (HPf C M o, c, s) ((.inl none, (HPf C ret o, c, s))) := by
  unfold b_100_76 at h
  refine mv_E.rT (t := mt_100) rfl 3 (f' := (80, [some (.ref 18), some (.int s0), some (.int l2)], [.int 92, .int l2])) (h' := (HPf C M o, c, s)) rfl ?_
  by_cases hc1804 : ¬ l2 = 92
  · replace h := (if_pos hc1804).symm.trans h
    refine mv_E.go rfl (mi_icmp_pos hc1804) ?_
    show mv_E (mp L xs) 100 (102, [some (.ref 18), some (.int s0), some (.int l2)], []) (HPf C M o, c, s) _
    exact tb_100_102 L xs C o c s M k_22 hk_22 s0 l2 _ h
  replace h := (if_neg hc1804).symm.trans h
  refine mv_E.go rfl (mi_icmp_neg hc1804) ?_
  refine mv_E.rT (t := mt_100) rfl 9 (f' := (98, [some (.ref 18), some (.int s0), some (.int l2)], [.int ((M.1 5) + 1), .ref 18])) (h' := (HPf C (ru (M.1) 5 (((M.1 5) + 1)), M.2) o, c, s)) rfl ?_
  obtain ⟨r1802, hr1803, h⟩ := Option.bind_eq_some_iff.mp h
  refine mv_E.call (z := 66) (vs := [.ref 18, .int ((M.1 5) + 1)]) (f' := (101, [some (.ref 18), some (.int s0), some (.int l2)], [])) (h' := (HPf C (ru (M.1) 5 (((M.1 5) + 1)), M.2) o, c, s)) rfl rfl rfl (t_66 L xs hr1803) (mv_okl rfl) ?_
  refine mv_E.rT (t := mt_100) rfl 1 (f' := (102, [some (.ref 18), some (.int s0), some (.int r1802)], [])) (h' := (HPf C (ru (M.1) 5 (((M.1 5) + 1)), M.2) o, c, s)) rfl ?_
  exact tb_100_102 L xs C o c s (ru (M.1) 5 (((M.1 5) + 1)), M.2) k_22 hk_22 s0 r1802 _ h
def b_100_71 (k_22 : CS → Int32 → Option (CS)) (M : CS) (l2 : Int32) : Option (CS) := b_100_76 k_22 M l2 1
theorem tb_100_71 (L : Nat) (xs : Nat → Int32) (C : CS) (o : Nat → Int64) (c s : Nat) (M : CS) (k_22 : CS → Int32 → Option (CS)) (hk_22 : ∀ (M : CS) (l1 : Int32) (d2 : Option Int32) (ret : CS), k_22 M l1 = some ret → mv_E (mp L xs) 100 (22, [some (.ref 18), some (.int l1), d2.map .int], []) (HPf C M o, c, s) ((.inl none, (HPf C ret o, c, s)))) (l2 : Int32) (d1 : Option Int32) (ret : CS) (h : b_100_71 k_22 M l2 = some ret) : mv_E (mp L xs) 100 (71, [some (.ref 18), d1.map .int, some (.int l2)], []) (HPf C M o, c, s) ((.inl none, (HPf C ret o, c, s))) := by
  unfold b_100_71 at h
  refine mv_E.rT (t := mt_100) rfl 2 (f' := (76, [some (.ref 18), d1.map .int, some (.int l2)], [.int 1])) (h' := (HPf C M o, c, s)) rfl ?_
  exact tb_100_76 L xs C o c s M k_22 hk_22 l2 1 d1 _ h
def b_100_75 (k_22 : CS → Int32 → Option (CS)) (M : CS) (l2 : Int32) : Option (CS) := b_100_76 k_22 M l2 0
theorem tb_100_75 (L : Nat) (xs : Nat → Int32) (C : CS) (o : Nat → Int64) (c s : Nat) (M : CS) (k_22 : CS → Int32 → Option (CS)) (hk_22 : ∀ (M : CS) (l1 : Int32) (d2 : Option Int32) (ret : CS), k_22 M l1 = some ret → mv_E (mp L xs) 100 (22, [some (.ref 18), some (.int l1), d2.map .int], []) (HPf C M o, c, s) ((.inl none, (HPf C ret o, c, s)))) (l2 : Int32) (d1 : Option Int32) (ret : CS) (h : b_100_75 k_22 M l2 = some ret) : mv_E (mp L xs) 100 (75, [some (.ref 18), d1.map .int, some (.int l2)], []) (HPf C M o, c, s) ((.inl none, (HPf C ret o, c, s))) := by
  unfold b_100_75 at h
  refine mv_E.rT (t := mt_100) rfl 1 (f' := (76, [some (.ref 18), d1.map .int, some (.int l2)], [.int 0])) (h' := (HPf C M o, c, s)) rfl ?_
  exact tb_100_76 L xs C o c s M k_22 hk_22 l2 0 d1 _ h
def b_100_46 (k_22 : CS → Int32 → Option (CS)) (M : CS) (l1 : Int32) : Option (CS) := (f_66 M (M.1 5)).bind fun r1789 => (if r1789 = 91 then b_100_71 k_22 M r1789 else (if l1 = 0 then b_100_75 k_22 M r1789 else (if r1789 = 93 then b_100_75 k_22 M r1789 else b_100_71 k_22 M r1789)))
theorem tb_100_46 (L : Nat) (xs : Nat → Int32) (C : CS) (o : Nat → Int64) (c s : Nat) (M : CS) (k_22 : CS → Int32 → Option (CS)) (hk_22 : ∀ (M : CS) (l1 : Int32) (d2 : Option Int32) (ret : CS), k_22 M l1 = some ret → mv_E (mp L xs) 100 (22, [some (.ref 18), some (.int l1), d2.map .int], []) (HPf C M o, c, s) ((.inl none, (HPf C ret o, c, s)))) (l1 : Int32) (d2 : Option Int32) (ret : CS) (h : b_100_46 k_22 M l1 = some ret) : mv_E (mp L xs) 100 (46, [some (.ref 18), some (.int l1), d2.map .int], []) (HPf C M o, c, s) ((.inl none, (HPf C ret o, c, s))) := by
  unfold b_100_46 at h
  refine mv_E.rT (t := mt_100) rfl 3 (f' := (51, [some (.ref 18), some (.int l1), d2.map .int], [.int (M.1 5), .ref 18])) (h' := (HPf C M o, c, s)) rfl ?_
  obtain ⟨r1808, hr1809, h⟩ := Option.bind_eq_some_iff.mp h
  refine mv_E.call (z := 66) (vs := [.ref 18, .int (M.1 5)]) (f' := (54, [some (.ref 18), some (.int l1), d2.map .int], [])) (h' := (HPf C M o, c, s)) rfl rfl rfl (t_66 L xs hr1809) (mv_okl rfl) ?_
  refine mv_E.rT (t := mt_100) rfl 3 (f' := (58, [some (.ref 18), some (.int l1), some (.int r1808)], [.int 91, .int r1808])) (h' := (HPf C M o, c, s)) rfl ?_
  by_cases hc1812 : r1808 = 91
  · replace h := (if_pos hc1812).symm.trans h
    refine mv_E.go rfl (mi_icmp_pos hc1812) ?_
    show mv_E (mp L xs) 100 (71, [some (.ref 18), some (.int l1), some (.int r1808)], []) (HPf C M o, c, s) _
    exact tb_100_71 L xs C o c s M k_22 hk_22 r1808 (some l1) _ h
  replace h := (if_neg hc1812).symm.trans h
  refine mv_E.go rfl (mi_icmp_neg hc1812) ?_
  refine mv_E.rT (t := mt_100) rfl 1 (f' := (62, [some (.ref 18), some (.int l1), some (.int r1808)], [.int l1])) (h' := (HPf C M o, c, s)) rfl ?_
  by_cases hc1811 : l1 = 0
  · replace h := (if_pos hc1811).symm.trans h
    refine mv_E.go rfl (mi_if_pos hc1811) ?_
    show mv_E (mp L xs) 100 (75, [some (.ref 18), some (.int l1), some (.int r1808)], []) (HPf C M o, c, s) _
    exact tb_100_75 L xs C o c s M k_22 hk_22 r1808 (some l1) _ h
  replace h := (if_neg hc1811).symm.trans h
  refine mv_E.go rfl (mi_if_neg hc1811) ?_
  refine mv_E.rT (t := mt_100) rfl 2 (f' := (68, [some (.ref 18), some (.int l1), some (.int r1808)], [.int 93, .int r1808])) (h' := (HPf C M o, c, s)) rfl ?_
  by_cases hc1810 : r1808 = 93
  · replace h := (if_pos hc1810).symm.trans h
    refine mv_E.go rfl (mi_icmp_pos hc1810) ?_
    show mv_E (mp L xs) 100 (75, [some (.ref 18), some (.int l1), some (.int r1808)], []) (HPf C M o, c, s) _
    exact tb_100_75 L xs C o c s M k_22 hk_22 r1808 (some l1) _ h
  replace h := (if_neg hc1810).symm.trans h
  refine mv_E.go rfl (mi_icmp_neg hc1810) ?_
  show mv_E (mp L xs) 100 (71, [some (.ref 18), some (.int l1), some (.int r1808)], []) (HPf C M o, c, s) _
  exact tb_100_71 L xs C o c s M k_22 hk_22 r1808 (some l1) _ h
def b_100_22 : Nat → CS → Int32 → Option (CS)
  | 0, _, _ => none
  | n + 1, M, l1 => (if 0 ≤ (M.1 4) then b_100_134 M else (if ¬ l1 = 0 then b_100_46 (b_100_22 n) M l1 else (f_66 M (M.1 5)).bind fun r1813 => (if r1813 = 47 then b_100_134 M else b_100_46 (b_100_22 n) M l1)))
theorem tb_100_22 (L : Nat) (xs : Nat → Int32) (C : CS) (o : Nat → Int64) (c s : Nat) : ∀ (n : Nat) (M : CS) (l1 : Int32) (d2 : Option Int32) (ret : CS), b_100_22 n M l1 = some ret → mv_E (mp L xs) 100 (22, [some (.ref 18), some (.int l1), d2.map .int], []) (HPf C M o, c, s) ((.inl none, (HPf C ret o, c, s))) := by
  intro n
  induction n with
  | zero => intro M l1 d2 ret h; rw [b_100_22] at h; cases h
  | succ n ih =>
    intro M l1 d2 ret h
    rw [b_100_22] at h
    refine mv_E.rT (t := mt_100) rfl 2 (f' := (26, [some (.ref 18), some (.int l1), d2.map .int], [.int (M.1 4)])) (h' := (HPf C M o, c, s)) rfl ?_
    by_cases hc1822 : 0 ≤ (M.1 4)
    · replace h := (if_pos hc1822).symm.trans h
      refine mv_E.go rfl (mi_if_pos hc1822) ?_
      show mv_E (mp L xs) 100 (134, [some (.ref 18), some (.int l1), d2.map .int], []) (HPf C M o, c, s) _
      exact tb_100_134 L xs C o c s M (some l1) d2 _ h
    replace h := (if_neg hc1822).symm.trans h
    refine mv_E.go rfl (mi_if_neg hc1822) ?_
    refine mv_E.rT (t := mt_100) rfl 1 (f' := (30, [some (.ref 18), some (.int l1), d2.map .int], [.int l1])) (h' := (HPf C M o, c, s)) rfl ?_
    by_cases hc1821 : ¬ l1 = 0
    · replace h := (if_pos hc1821).symm.trans h
      refine mv_E.go rfl (mi_if_pos hc1821) ?_
      show mv_E (mp L xs) 100 (46, [some (.ref 18), some (.int l1), d2.map .int], []) (HPf C M o, c, s) _
      exact tb_100_46 L xs C o c s M (b_100_22 n) ih l1 d2 _ h
    replace h := (if_neg hc1821).symm.trans h
    refine mv_E.go rfl (mi_if_neg hc1821) ?_
    refine mv_E.rT (t := mt_100) rfl 3 (f' := (38, [some (.ref 18), some (.int l1), d2.map .int], [.int (M.1 5), .ref 18])) (h' := (HPf C M o, c, s)) rfl ?_
    obtain ⟨r1818, hr1819, h⟩ := Option.bind_eq_some_iff.mp h
    refine mv_E.call (z := 66) (vs := [.ref 18, .int (M.1 5)]) (f' := (41, [some (.ref 18), some (.int l1), d2.map .int], [])) (h' := (HPf C M o, c, s)) rfl rfl rfl (t_66 L xs hr1819) (mv_okl rfl) ?_
    refine mv_E.rT (t := mt_100) rfl 1 (f' := (43, [some (.ref 18), some (.int l1), d2.map .int], [.int 47, .int r1818])) (h' := (HPf C M o, c, s)) rfl ?_
    by_cases hc1820 : r1818 = 47
    · replace h := (if_pos hc1820).symm.trans h
      refine mv_E.go rfl (mi_icmp_pos hc1820) ?_
      show mv_E (mp L xs) 100 (134, [some (.ref 18), some (.int l1), d2.map .int], []) (HPf C M o, c, s) _
      exact tb_100_134 L xs C o c s M (some l1) d2 _ h
    replace h := (if_neg hc1820).symm.trans h
    refine mv_E.go rfl (mi_icmp_neg hc1820) ?_
    show mv_E (mp L xs) 100 (46, [some (.ref 18), some (.int l1), d2.map .int], []) (HPf C M o, c, s) _
    exact tb_100_46 L xs C o c s M (b_100_22 n) ih l1 d2 _ h
def f_100 (M : CS) : Option (CS) := b_100_22 fu (ru (ru (ru (M.1) 6 (5)) 11 (0)) 5 (((M.1 7) + 1)), M.2) 0
theorem t_100 (L : Nat) (xs : Nat → Int32) {C M : CS} {o : Nat → Int64} {c s : Nat} {ret : CS} (h : f_100 M = some ret) : mv_E (mp L xs) 100 (0, [some (.ref 18), none, none], []) (HPf C M o, c, s) ((.inl none, (HPf C ret o, c, s))) := by
  unfold f_100 at h
  refine mv_E.rT (t := mt_100) rfl 14 (f' := (22, [some (.ref 18), some (.int 0), none], [])) (h' := (HPf C (ru (ru (ru (M.1) 6 (5)) 11 (0)) 5 (((M.1 7) + 1)), M.2) o, c, s)) rfl ?_
  exact tb_100_22 L xs C o c s fu (ru (ru (ru (M.1) 6 (5)) 11 (0)) 5 (((M.1 7) + 1)), M.2) 0 none _ h
