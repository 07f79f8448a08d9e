def b_130_103 : Nat → CS → Int32 → Int32 → Option (Int32 × CS)
  | 0, _, _, _ => none
  | n + 1, M, l2, l3 => (if (M.1 12) ≤ l3 then if mv_in (M.1 14) 1024 = true then some ((((M.1 14) + 1) - 1), (ru (M.1) 14 (((M.1 14) + 1)), ru (M.2) 4 (upd (M.2 4) (M.1 14).toNatClampNeg (l2 + (M.1 12))))) else none else if mv_in l3 2000 = true then if mv_in (l2 + l3) 8192 = true then (b_130_103 n) (M.1, ru (M.2) 5 (upd (M.2 5) (l2 + l3).toNatClampNeg ((M.2 1) l3.toNatClampNeg))) l2 (l3 + 1) else none else none)
theorem tb_130_103 (L : Nat) (xs : Nat → Int32) (C : CS) (o : Nat → Int64) (c s : Nat) : ∀ (n : Nat) (M : CS) (l2 : Int32) (l3 : Int32) (d1 : Option Int32) (ret : Int32 × CS), b_130_103 n M l2 l3 = some ret → mv_E (mp L xs) 130 (103, [some (.ref 18), d1.map .int, some (.int l2), some (.int l3)], []) (HPf C M o, c, s) ((.inl (some (.int ret.1)), (HPf C ret.2 o, c, s))) := by
  intro n
  induction n with
  | zero => intro M l2 l3 d1 ret h; rw [b_130_103] at h; cases h
  | succ n ih =>
    intro M l2 l3 d1 ret h
    rw [b_130_103] at h
    refine mv_E.rT (t := mt_130) rfl 3 (f' := (108, [some (.ref 18), d1.map .int, some (.int l2), some (.int l3)], [.int (M.1 12), .int l3])) (h' := (HPf C M o, c, s)) rfl ?_
    by_cases hc1975 : (M.1 12) ≤ l3
    · replace h := (if_pos hc1975).symm.trans h
      refine mv_E.go rfl (mi_icmp_pos hc1975) ?_
      refine mv_E.rT (t := mt_130) rfl 8 (f' := (145, [some (.ref 18), d1.map .int, some (.int l2), some (.int l3)], [.int (l2 + (M.1 12)), .int (M.1 14), .ref 23])) (h' := (HPf C M o, c, s)) rfl ?_
      by_cases hb1972 : mv_in (M.1 14) 1024 = true
      rotate_left
      · cases (if_neg hb1972).symm.trans h
      replace h := (if_pos hb1972).symm.trans h
      refine mv_E.go rfl (mi_iast_at rfl hb1972) ?_
      refine mv_E.rT (t := mt_130) rfl 10 (f' := (162, [some (.ref 18), d1.map .int, some (.int l2), some (.int l3)], [.int (((M.1 14) + 1) - 1)])) (h' := (HPf C (ru (M.1) 14 (((M.1 14) + 1)), ru (M.2) 4 (upd (M.2 4) (M.1 14).toNatClampNeg (l2 + (M.1 12)))) o, c, s)) rfl ?_
      cases h
      exact mv_E.done rfl rfl
    replace h := (if_neg hc1975).symm.trans h
    refine mv_E.go rfl (mi_icmp_neg hc1975) ?_
    refine mv_E.rT (t := mt_130) rfl 8 (f' := (123, [some (.ref 18), d1.map .int, some (.int l2), some (.int l3)], [.int l3, .ref 20, .int (l2 + l3), .ref 24])) (h' := (HPf C M o, c, s)) rfl ?_
    by_cases hb1973 : mv_in l3 2000 = true
    rotate_left
    · cases (if_neg hb1973).symm.trans h
    replace h := (if_pos hb1973).symm.trans h
    refine mv_E.go rfl (mi_iald_at rfl hb1973) ?_
    show mv_E (mp L xs) 130 (124, [some (.ref 18), d1.map .int, some (.int l2), some (.int l3)], [.int ((M.2 1) l3.toNatClampNeg), .int (l2 + l3), .ref 24]) (HPf C M o, c, s) _
    by_cases hb1974 : mv_in (l2 + l3) 8192 = true
    rotate_left
    · cases (if_neg hb1974).symm.trans h
    replace h := (if_pos hb1974).symm.trans h
    refine mv_E.go rfl (mi_iast_at rfl hb1974) ?_
    refine mv_E.rT (t := mt_130) rfl 2 (f' := (103, [some (.ref 18), d1.map .int, some (.int l2), some (.int (l3 + 1))], [])) (h' := (HPf C (M.1, ru (M.2) 5 (upd (M.2 5) (l2 + l3).toNatClampNeg ((M.2 1) l3.toNatClampNeg))) o, c, s)) rfl ?_
    exact ih (M.1, ru (M.2) 5 (upd (M.2 5) (l2 + l3).toNatClampNeg ((M.2 1) l3.toNatClampNeg))) l2 (l3 + 1) d1 _ h
def b_130_92 (M : CS) (l2 : Int32) (s0 : Int32) : Option (Int32 × CS) := (f_22 M s0 0).bind fun r1966 => (if r1966.1 = 0 then b_130_103 fu r1966.2 l2 0 else some (0, r1966.2))
theorem tb_130_92 (L : Nat) (xs : Nat → Int32) (C : CS) (o : Nat → Int64) (c s : Nat) (M : CS) (l2 : Int32) (s0 : Int32) (d1 : Option Int32) (d3 : Option Int32) (ret : Int32 × CS) (h : b_130_92 M l2 s0 = some ret) : mv_E (mp L xs) 130 (92, [some (.ref 18), d1.map .int, some (.int l2), d3.map .int], [.int s0, .ref 18]) (HPf C M o, c, s) ((.inl (some (.int ret.1)), (HPf C ret.2 o, c, s))) := by
  unfold b_130_92 at h
  refine mv_E.rT (t := mt_130) rfl 1 (f' := (93, [some (.ref 18), d1.map .int, some (.int l2), d3.map .int], [.int 0, .int s0, .ref 18])) (h' := (HPf C M o, c, s)) rfl ?_
  obtain ⟨r1977, hr1978, h⟩ := Option.bind_eq_some_iff.mp h
  refine mv_E.call (z := 22) (vs := [.ref 18, .int s0, .int 0]) (f' := (96, [some (.ref 18), d1.map .int, some (.int l2), d3.map .int], [])) (h' := (HPf C M o, c, s)) rfl rfl rfl (t_22 L xs hr1978) (mv_okl rfl) ?_
  show mv_E (mp L xs) 130 (96, [some (.ref 18), d1.map .int, some (.int l2), d3.map .int], [.int r1977.1]) (HPf C r1977.2 o, c, s) _
  by_cases hc1979 : r1977.1 = 0
  · replace h := (if_pos hc1979).symm.trans h
    refine mv_E.go rfl (mi_if_pos hc1979) ?_
    refine mv_E.rT (t := mt_130) rfl 2 (f' := (103, [some (.ref 18), d1.map .int, some (.int l2), some (.int 0)], [])) (h' := (HPf C r1977.2 o, c, s)) rfl ?_
    exact tb_130_103 L xs C o c s fu r1977.2 l2 0 d1 _ h
  replace h := (if_neg hc1979).symm.trans h
  refine mv_E.go rfl (mi_if_neg hc1979) ?_
  refine mv_E.rT (t := mt_130) rfl 1 (f' := (100, [some (.ref 18), d1.map .int, some (.int l2), d3.map .int], [.int 0])) (h' := (HPf C r1977.2 o, c, s)) rfl ?_
  cases h
  exact mv_E.done rfl rfl
def b_130_87 (M : CS) (l2 : Int32) : Option (Int32 × CS) := b_130_92 M l2 1
theorem tb_130_87 (L : Nat) (xs : Nat → Int32) (C : CS) (o : Nat → Int64) (c s : Nat) (M : CS) (l2 : Int32) (d1 : Option Int32) (d3 : Option Int32) (ret : Int32 × CS) (h : b_130_87 M l2 = some ret) : mv_E (mp L xs) 130 (87, [some (.ref 18), d1.map .int, some (.int l2), d3.map .int], [.ref 18]) (HPf C M o, c, s) ((.inl (some (.int ret.1)), (HPf C ret.2 o, c, s))) := by
  unfold b_130_87 at h
  refine mv_E.rT (t := mt_130) rfl 2 (f' := (92, [some (.ref 18), d1.map .int, some (.int l2), d3.map .int], [.int 1, .ref 18])) (h' := (HPf C M o, c, s)) rfl ?_
  exact tb_130_92 L xs C o c s M l2 1 d1 d3 _ h
def b_130_59 (M : CS) (l1 : Int32) (s0 : Int32) : Option (Int32 × CS) := (if l1 = 0 then b_130_87 M s0 else (if (M.1 14) = 1024 then b_130_87 M s0 else (if (s0 + (M.1 12)) ≤ 8192 then b_130_92 M s0 0 else b_130_87 M s0)))
theorem tb_130_59 (L : Nat) (xs : Nat → Int32) (C : CS) (o : Nat → Int64) (c s : Nat) (M : CS) (l1 : Int32) (s0 : Int32) (d2 : Option Int32) (d3 : Option Int32) (ret : Int32 × CS) (h : b_130_59 M l1 s0 = some ret) : mv_E (mp L xs) 130 (59, [some (.ref 18), some (.int l1), d2.map .int, d3.map .int], [.int s0]) (HPf C M o, c, s) ((.inl (some (.int ret.1)), (HPf C ret.2 o, c, s))) := by
  unfold b_130_59 at h
  refine mv_E.rT (t := mt_130) rfl 3 (f' := (62, [some (.ref 18), some (.int l1), some (.int s0), d3.map .int], [.int l1, .ref 18])) (h' := (HPf C M o, c, s)) rfl ?_
  by_cases hc1985 : l1 = 0
  · replace h := (if_pos hc1985).symm.trans h
    refine mv_E.go rfl (mi_if_pos hc1985) ?_
    show mv_E (mp L xs) 130 (87, [some (.ref 18), some (.int l1), some (.int s0), d3.map .int], [.ref 18]) (HPf C M o, c, s) _
    exact tb_130_87 L xs C o c s M s0 (some l1) d3 _ h
  replace h := (if_neg hc1985).symm.trans h
  refine mv_E.go rfl (mi_if_neg hc1985) ?_
  refine mv_E.rT (t := mt_130) rfl 3 (f' := (72, [some (.ref 18), some (.int l1), some (.int s0), d3.map .int], [.int 1024, .int (M.1 14), .ref 18])) (h' := (HPf C M o, c, s)) rfl ?_
  by_cases hc1984 : (M.1 14) = 1024
  · replace h := (if_pos hc1984).symm.trans h
    refine mv_E.go rfl (mi_icmp_pos hc1984) ?_
    show mv_E (mp L xs) 130 (87, [some (.ref 18), some (.int l1), some (.int s0), d3.map .int], [.ref 18]) (HPf C M o, c, s) _
    exact tb_130_87 L xs C o c s M s0 (some l1) d3 _ h
  replace h := (if_neg hc1984).symm.trans h
  refine mv_E.go rfl (mi_icmp_neg hc1984) ?_
  refine mv_E.rT (t := mt_130) rfl 5 (f' := (84, [some (.ref 18), some (.int l1), some (.int s0), d3.map .int], [.int 8192, .int (s0 + (M.1 12)), .ref 18])) (h' := (HPf C M o, c, s)) rfl ?_
  by_cases hc1983 : (s0 + (M.1 12)) ≤ 8192
  · replace h := (if_pos hc1983).symm.trans h
    refine mv_E.go rfl (mi_icmp_pos hc1983) ?_
    refine mv_E.rT (t := mt_130) rfl 1 (f' := (92, [some (.ref 18), some (.int l1), some (.int s0), d3.map .int], [.int 0, .ref 18])) (h' := (HPf C M o, c, s)) rfl ?_
    exact tb_130_92 L xs C o c s M s0 0 (some l1) d3 _ h
  replace h := (if_neg hc1983).symm.trans h
  refine mv_E.go rfl (mi_icmp_neg hc1983) ?_
  show mv_E (mp L xs) 130 (87, [some (.ref 18), some (.int l1), some (.int s0), d3.map .int], [.ref 18]) (HPf C M o, c, s) _
  exact tb_130_87 L xs C o c s M s0 (some l1) d3 _ h
def b_130_36 (M : CS) (s0 : Int32) : Option (Int32 × CS) := (if ¬ (M.1 14) = 0 then if mv_in ((M.1 14) - 1) 1024 = true then b_130_59 M s0 ((M.2 4) ((M.1 14) - 1).toNatClampNeg) else none else b_130_59 M s0 0)
theorem tb_130_36 (L : Nat) (xs : Nat → Int32) (C : CS) (o : Nat → Int64) (c s : Nat) (M : CS) (s0 : Int32) (d1 : Option Int32) (d2 : Option Int32) (d3 : Option Int32) (ret : Int32 × CS) (h : b_130_36 M s0 = some ret) : mv_E (mp L xs) 130 (36, [some (.ref 18), d1.map .int, d2.map .int, d3.map .int], [.int s0]) (HPf C M o, c, s) ((.inl (some (.int ret.1)), (HPf C ret.2 o, c, s))) := by
  unfold b_130_36 at h
  refine mv_E.rT (t := mt_130) rfl 3 (f' := (41, [some (.ref 18), some (.int s0), d2.map .int, d3.map .int], [.int (M.1 14)])) (h' := (HPf C M o, c, s)) rfl ?_
  by_cases hc1988 : ¬ (M.1 14) = 0
  · replace h := (if_pos hc1988).symm.trans h
    refine mv_E.go rfl (mi_if_pos hc1988) ?_
    refine mv_E.rT (t := mt_130) rfl 6 (f' := (58, [some (.ref 18), some (.int s0), d2.map .int, d3.map .int], [.int ((M.1 14) - 1), .ref 23])) (h' := (HPf C M o, c, s)) rfl ?_
    by_cases hb1987 : mv_in ((M.1 14) - 1) 1024 = true
    rotate_left
    · cases (if_neg hb1987).symm.trans h
    replace h := (if_pos hb1987).symm.trans h
    refine mv_E.go rfl (mi_iald_at rfl hb1987) ?_
    show mv_E (mp L xs) 130 (59, [some (.ref 18), some (.int s0), d2.map .int, d3.map .int], [.int ((M.2 4) ((M.1 14) - 1).toNatClampNeg)]) (HPf C M o, c, s) _
    exact tb_130_59 L xs C o c s M s0 ((M.2 4) ((M.1 14) - 1).toNatClampNeg) d2 d3 _ h
  replace h := (if_neg hc1988).symm.trans h
  refine mv_E.go rfl (mi_if_neg hc1988) ?_
  refine mv_E.rT (t := mt_130) rfl 2 (f' := (59, [some (.ref 18), some (.int s0), d2.map .int, d3.map .int], [.int 0])) (h' := (HPf C M o, c, s)) rfl ?_
  exact tb_130_59 L xs C o c s M s0 0 d2 d3 _ h
def b_130_35 (M : CS) : Option (Int32 × CS) := b_130_36 M 0
theorem tb_130_35 (L : Nat) (xs : Nat → Int32) (C : CS) (o : Nat → Int64) (c s : Nat) (M : CS) (d1 : Option Int32) (d2 : Option Int32) (d3 : Option Int32) (ret : Int32 × CS) (h : b_130_35 M = some ret) : mv_E (mp L xs) 130 (35, [some (.ref 18), d1.map .int, d2.map .int, d3.map .int], []) (HPf C M o, c, s) ((.inl (some (.int ret.1)), (HPf C ret.2 o, c, s))) := by
  unfold b_130_35 at h
  refine mv_E.rT (t := mt_130) rfl 1 (f' := (36, [some (.ref 18), d1.map .int, d2.map .int, d3.map .int], [.int 0])) (h' := (HPf C M o, c, s)) rfl ?_
  exact tb_130_36 L xs C o c s M 0 d1 d2 d3 _ h
def b_130_31 (M : CS) : Option (Int32 × CS) := b_130_36 M 1
theorem tb_130_31 (L : Nat) (xs : Nat → Int32) (C : CS) (o : Nat → Int64) (c s : Nat) (M : CS) (d1 : Option Int32) (d2 : Option Int32) (d3 : Option Int32) (ret : Int32 × CS) (h : b_130_31 M = some ret) : mv_E (mp L xs) 130 (31, [some (.ref 18), d1.map .int, d2.map .int, d3.map .int], []) (HPf C M o, c, s) ((.inl (some (.int ret.1)), (HPf C ret.2 o, c, s))) := by
  unfold b_130_31 at h
  refine mv_E.rT (t := mt_130) rfl 2 (f' := (36, [some (.ref 18), d1.map .int, d2.map .int, d3.map .int], [.int 1])) (h' := (HPf C M o, c, s)) rfl ?_
  exact tb_130_36 L xs C o c s M 1 d1 d2 d3 _ h
def f_130 (M : CS) : Option (Int32 × CS) := (if (M.1 2) = 0 then b_130_35 M else (if (M.1 6) = 2 then b_130_31 M else (if (M.1 6) = 3 then b_130_31 M else (if ¬ (M.1 6) = 5 then b_130_35 M else b_130_31 M))))
theorem t_130 (L : Nat) (xs : Nat → Int32) {C M : CS} {o : Nat → Int64} {c s : Nat} {ret : Int32 × CS} (h : f_130 M = some ret) : mv_E (mp L xs) 130 (0, [some (.ref 18), none, none, none], []) (HPf C M o, c, s) ((.inl (some (.int ret.1)), (HPf C ret.2 o, c, s))) := by
  unfold f_130 at h
  refine mv_E.rT (t := mt_130) rfl 2 (f' := (4, [some (.ref 18), none, none, none], [.int (M.1 2)])) (h' := (HPf C M o, c, s)) rfl ?_
  by_cases hc1992 : (M.1 2) = 0
  · replace h := (if_pos hc1992).symm.trans h
    refine mv_E.go rfl (mi_if_pos hc1992) ?_
    show mv_E (mp L xs) 130 (35, [some (.ref 18), none, none, none], []) (HPf C M o, c, s) _
    exact tb_130_35 L xs C o c s M none none none _ h
  replace h := (if_neg hc1992).symm.trans h
  refine mv_E.go rfl (mi_if_neg hc1992) ?_
  refine mv_E.rT (t := mt_130) rfl 3 (f' := (12, [some (.ref 18), none, none, none], [.int 2, .int (M.1 6)])) (h' := (HPf C M o, c, s)) rfl ?_
  by_cases hc1991 : (M.1 6) = 2
  · replace h := (if_pos hc1991).symm.trans h
    refine mv_E.go rfl (mi_icmp_pos hc1991) ?_
    show mv_E (mp L xs) 130 (31, [some (.ref 18), none, none, none], []) (HPf C M o, c, s) _
    exact tb_130_31 L xs C o c s M none none none _ h
  replace h := (if_neg hc1991).symm.trans h
  refine mv_E.go rfl (mi_icmp_neg hc1991) ?_
  refine mv_E.rT (t := mt_130) rfl 3 (f' := (20, [some (.ref 18), none, none, none], [.int 3, .int (M.1 6)])) (h' := (HPf C M o, c, s)) rfl ?_
  by_cases hc1990 : (M.1 6) = 3
  · replace h := (if_pos hc1990).symm.trans h
    refine mv_E.go rfl (mi_icmp_pos hc1990) ?_
    show mv_E (mp L xs) 130 (31, [some (.ref 18), none, none, none], []) (HPf C M o, c, s) _
    exact tb_130_31 L xs C o c s M none none none _ h
  replace h := (if_neg hc1990).symm.trans h
  refine mv_E.go rfl (mi_icmp_neg hc1990) ?_
  refine mv_E.rT (t := mt_130) rfl 3 (f' := (28, [some (.ref 18), none, none, none], [.int 5, .int (M.1 6)])) (h' := (HPf C M o, c, s)) rfl ?_
  by_cases hc1989 : ¬ (M.1 6) = 5
  · replace h := (if_pos hc1989).symm.trans h
    refine mv_E.go rfl (mi_icmp_pos hc1989) ?_
    show mv_E (mp L xs) 130 (35, [some (.ref 18), none, none, none], []) (HPf C M o, c, s) _
    exact tb_130_35 L xs C o c s M none none none _ h
  replace h := (if_neg hc1989).symm.trans h
  refine mv_E.go rfl (mi_icmp_neg hc1989) ?_
  show mv_E (mp L xs) 130 (31, [some (.ref 18), none, none, none], []) (HPf C M o, c, s) _
  exact tb_130_31 L xs C o c s M none none none _ h
def b_134_123 (M : CS) (l1 : Int32) (l3 : Int32) (l5 : Int32) (l6 : Int32) (s0 : Int32) : Option (Int32 × CS) := (f_22 M s0 0).bind fun r1994 => (if r1994.1 = 0 then (if 0 ≤ l3 then (if l1 = 0 then if mv_in (l5 + l3) 2000 = true then some (((r1994.2.2 3) (l5 + l3).toNatClampNeg), r1994.2) else none else if mv_in (l5 + l3) 8192 = true then some (((r1994.2.2 5) (l5 + l3).toNatClampNeg), r1994.2) else none) else some (l6, r1994.2)) else some (0, r1994.2))
theorem tb_134_123 (L : Nat) (xs : Nat → Int32) (C : CS) (o : Nat → Int64) (c s : Nat) (M : CS) (l1 : Int32) (l3 : Int32) (l5 : Int32) (l6 : Int32) (s0 : Int32) (d2 : Option Int32) (d4 : Option Int32) (ret : Int32 × CS) (h : b_134_123 M l1 l3 l5 l6 s0 = some ret) : mv_E (mp L xs) 134 (123, [some (.ref 18), some (.int l1), d2.map .int, some (.int l3), d4.map .int, some (.int l5), some (.int l6)], [.int s0, .ref 18]) (HPf C M o, c, s) ((.inl (some (.int ret.1)), (HPf C ret.2 o, c, s))) := by
  unfold b_134_123 at h
  refine mv_E.rT (t := mt_134) rfl 1 (f' := (124, [some (.ref 18), some (.int l1), d2.map .int, some (.int l3), d4.map .int, some (.int l5), some (.int l6)], [.int 0, .int s0, .ref 18])) (h' := (HPf C M o, c, s)) rfl ?_
  obtain ⟨r2001, hr2002, h⟩ := Option.bind_eq_some_iff.mp h
  refine mv_E.call (z := 22) (vs := [.ref 18, .int s0, .int 0]) (f' := (127, [some (.ref 18), some (.int l1), d2.map .int, some (.int l3), d4.map .int, some (.int l5), some (.int l6)], [])) (h' := (HPf C M o, c, s)) rfl rfl rfl (t_22 L xs hr2002) (mv_okl rfl) ?_
  show mv_E (mp L xs) 134 (127, [some (.ref 18), some (.int l1), d2.map .int, some (.int l3), d4.map .int, some (.int l5), some (.int l6)], [.int r2001.1]) (HPf C r2001.2 o, c, s) _
  by_cases hc2007 : r2001.1 = 0
  · replace h := (if_pos hc2007).symm.trans h
    refine mv_E.go rfl (mi_if_pos hc2007) ?_
    refine mv_E.rT (t := mt_134) rfl 1 (f' := (133, [some (.ref 18), some (.int l1), d2.map .int, some (.int l3), d4.map .int, some (.int l5), some (.int l6)], [.int l3])) (h' := (HPf C r2001.2 o, c, s)) rfl ?_
    by_cases hc2006 : 0 ≤ l3
    · replace h := (if_pos hc2006).symm.trans h
      refine mv_E.go rfl (mi_if_pos hc2006) ?_
      refine mv_E.rT (t := mt_134) rfl 1 (f' := (142, [some (.ref 18), some (.int l1), d2.map .int, some (.int l3), d4.map .int, some (.int l5), some (.int l6)], [.int l1])) (h' := (HPf C r2001.2 o, c, s)) rfl ?_
      by_cases hc2005 : l1 = 0
      · replace h := (if_pos hc2005).symm.trans h
        refine mv_E.go rfl (mi_if_pos hc2005) ?_
        refine mv_E.rT (t := mt_134) rfl 5 (f' := (165, [some (.ref 18), some (.int l1), d2.map .int, some (.int l3), d4.map .int, some (.int l5), some (.int l6)], [.int (l5 + l3), .ref 22])) (h' := (HPf C r2001.2 o, c, s)) rfl ?_
        by_cases hb2003 : mv_in (l5 + l3) 2000 = true
        rotate_left
        · cases (if_neg hb2003).symm.trans h
        replace h := (if_pos hb2003).symm.trans h
        refine mv_E.go rfl (mi_iald_at rfl hb2003) ?_
        show mv_E (mp L xs) 134 (166, [some (.ref 18), some (.int l1), d2.map .int, some (.int l3), d4.map .int, some (.int l5), some (.int l6)], [.int ((r2001.2.2 3) (l5 + l3).toNatClampNeg)]) (HPf C r2001.2 o, c, s) _
        cases h
        exact mv_E.done rfl rfl
      replace h := (if_neg hc2005).symm.trans h
      refine mv_E.go rfl (mi_if_neg hc2005) ?_
      refine mv_E.rT (t := mt_134) rfl 5 (f' := (153, [some (.ref 18), some (.int l1), d2.map .int, some (.int l3), d4.map .int, some (.int l5), some (.int l6)], [.int (l5 + l3), .ref 24])) (h' := (HPf C r2001.2 o, c, s)) rfl ?_
      by_cases hb2004 : mv_in (l5 + l3) 8192 = true
      rotate_left
      · cases (if_neg hb2004).symm.trans h
      replace h := (if_pos hb2004).symm.trans h
      refine mv_E.go rfl (mi_iald_at rfl hb2004) ?_
      refine mv_E.rT (t := mt_134) rfl 1 (f' := (166, [some (.ref 18), some (.int l1), d2.map .int, some (.int l3), d4.map .int, some (.int l5), some (.int l6)], [.int ((r2001.2.2 5) (l5 + l3).toNatClampNeg)])) (h' := (HPf C r2001.2 o, c, s)) rfl ?_
      cases h
      exact mv_E.done rfl rfl
    replace h := (if_neg hc2006).symm.trans h
    refine mv_E.go rfl (mi_if_neg hc2006) ?_
    refine mv_E.rT (t := mt_134) rfl 2 (f' := (166, [some (.ref 18), some (.int l1), d2.map .int, some (.int l3), d4.map .int, some (.int l5), some (.int l6)], [.int l6])) (h' := (HPf C r2001.2 o, c, s)) rfl ?_
    cases h
    exact mv_E.done rfl rfl
  replace h := (if_neg hc2007).symm.trans h
  refine mv_E.go rfl (mi_if_neg hc2007) ?_
  refine mv_E.rT (t := mt_134) rfl 1 (f' := (131, [some (.ref 18), some (.int l1), d2.map .int, some (.int l3), d4.map .int, some (.int l5), some (.int l6)], [.int 0])) (h' := (HPf C r2001.2 o, c, s)) rfl ?_
  cases h
  exact mv_E.done rfl rfl
def b_134_118 (M : CS) (l1 : Int32) (l3 : Int32) (l5 : Int32) (l6 : Int32) : Option (Int32 × CS) := b_134_123 M l1 l3 l5 l6 1
theorem tb_134_118 (L : Nat) (xs : Nat → Int32) (C : CS) (o : Nat → Int64) (c s : Nat) (M : CS) (l1 : Int32) (l3 : Int32) (l5 : Int32) (l6 : Int32) (d2 : Option Int32) (d4 : Option Int32) (ret : Int32 × CS) (h : b_134_118 M l1 l3 l5 l6 = some ret) : mv_E (mp L xs) 134 (118, [some (.ref 18), some (.int l1), d2.map .int, some (.int l3), d4.map .int, some (.int l5), some (.int l6)], [.ref 18]) (HPf C M o, c, s) ((.inl (some (.int ret.1)), (HPf C ret.2 o, c, s))) := by
  unfold b_134_118 at h
  refine mv_E.rT (t := mt_134) rfl 2 (f' := (123, [some (.ref 18), some (.int l1), d2.map .int, some (.int l3), d4.map .int, some (.int l5), some (.int l6)], [.int 1, .ref 18])) (h' := (HPf C M o, c, s)) rfl ?_
  exact tb_134_123 L xs C o c s M l1 l3 l5 l6 1 d2 d4 _ h
def b_134_99 (M : CS) (l1 : Int32) (l3 : Int32) (l4 : Int32) (l5 : Int32) (s0 : Int32) : Option (Int32 × CS) := (if ¬ l4 = 0 then b_134_118 M l1 l3 l5 s0 else (if l3 < (-1) then b_134_118 M l1 l3 l5 s0 else (if l3 < s0 then b_134_123 M l1 l3 l5 s0 0 else b_134_118 M l1 l3 l5 s0)))
theorem tb_134_99 (L : Nat) (xs : Nat → Int32) (C : CS) (o : Nat → Int64) (c s : Nat) (M : CS) (l1 : Int32) (l3 : Int32) (l4 : Int32) (l5 : Int32) (s0 : Int32) (d2 : Option Int32) (d6 : Option Int32) (ret : Int32 × CS) (h : b_134_99 M l1 l3 l4 l5 s0 = some ret) : mv_E (mp L xs) 134 (99, [some (.ref 18), some (.int l1), d2.map .int, some (.int l3), some (.int l4), some (.int l5), d6.map .int], [.int s0]) (HPf C M o, c, s) ((.inl (some (.int ret.1)), (HPf C ret.2 o, c, s))) := by
  unfold b_134_99 at h
  refine mv_E.rT (t := mt_134) rfl 3 (f' := (104, [some (.ref 18), some (.int l1), d2.map .int, some (.int l3), some (.int l4), some (.int l5), some (.int s0)], [.int l4, .ref 18])) (h' := (HPf C M o, c, s)) rfl ?_
  by_cases hc2013 : ¬ l4 = 0
  · replace h := (if_pos hc2013).symm.trans h
    refine mv_E.go rfl (mi_if_pos hc2013) ?_
    show mv_E (mp L xs) 134 (118, [some (.ref 18), some (.int l1), d2.map .int, some (.int l3), some (.int l4), some (.int l5), some (.int s0)], [.ref 18]) (HPf C M o, c, s) _
    exact tb_134_118 L xs C o c s M l1 l3 l5 s0 d2 (some l4) _ h
  replace h := (if_neg hc2013).symm.trans h
  refine mv_E.go rfl (mi_if_neg hc2013) ?_
  refine mv_E.rT (t := mt_134) rfl 2 (f' := (109, [some (.ref 18), some (.int l1), d2.map .int, some (.int l3), some (.int l4), some (.int l5), some (.int s0)], [.int (-1), .int l3, .ref 18])) (h' := (HPf C M o, c, s)) rfl ?_
  by_cases hc2012 : l3 < (-1)
  · replace h := (if_pos hc2012).symm.trans h
    refine mv_E.go rfl (mi_icmp_pos hc2012) ?_
    show mv_E (mp L xs) 134 (118, [some (.ref 18), some (.int l1), d2.map .int, some (.int l3), some (.int l4), some (.int l5), some (.int s0)], [.ref 18]) (HPf C M o, c, s) _
    exact tb_134_118 L xs C o c s M l1 l3 l5 s0 d2 (some l4) _ h
  replace h := (if_neg hc2012).symm.trans h
  refine mv_E.go rfl (mi_icmp_neg hc2012) ?_
  refine mv_E.rT (t := mt_134) rfl 2 (f' := (115, [some (.ref 18), some (.int l1), d2.map .int, some (.int l3), some (.int l4), some (.int l5), some (.int s0)], [.int s0, .int l3, .ref 18])) (h' := (HPf C M o, c, s)) rfl ?_
  by_cases hc2011 : l3 < s0
  · replace h := (if_pos hc2011).symm.trans h
    refine mv_E.go rfl (mi_icmp_pos hc2011) ?_
    refine mv_E.rT (t := mt_134) rfl 1 (f' := (123, [some (.ref 18), some (.int l1), d2.map .int, some (.int l3), some (.int l4), some (.int l5), some (.int s0)], [.int 0, .ref 18])) (h' := (HPf C M o, c, s)) rfl ?_
    exact tb_134_123 L xs C o c s M l1 l3 l5 s0 0 d2 (some l4) _ h
  replace h := (if_neg hc2011).symm.trans h
  refine mv_E.go rfl (mi_icmp_neg hc2011) ?_
  show mv_E (mp L xs) 134 (118, [some (.ref 18), some (.int l1), d2.map .int, some (.int l3), some (.int l4), some (.int l5), some (.int s0)], [.ref 18]) (HPf C M o, c, s) _
  exact tb_134_118 L xs C o c s M l1 l3 l5 s0 d2 (some l4) _ h
def b_134_96 (M : CS) (l1 : Int32) (l3 : Int32) (l4 : Int32) (l5 : Int32) (s0 : Int32) : Option (Int32 × CS) := b_134_99 M l1 l3 l4 l5 (s0 - l5)
theorem tb_134_96 (L : Nat) (xs : Nat → Int32) (C : CS) (o : Nat → Int64) (c s : Nat) (M : CS) (l1 : Int32) (l3 : Int32) (l4 : Int32) (l5 : Int32) (s0 : Int32) (d2 : Option Int32) (d6 : Option Int32) (ret : Int32 × CS) (h : b_134_96 M l1 l3 l4 l5 s0 = some ret) : mv_E (mp L xs) 134 (96, [some (.ref 18), some (.int l1), d2.map .int, some (.int l3), some (.int l4), some (.int l5), d6.map .int], [.int s0]) (HPf C M o, c, s) ((.inl (some (.int ret.1)), (HPf C ret.2 o, c, s))) := by
  unfold b_134_96 at h
  refine mv_E.rT (t := mt_134) rfl 2 (f' := (99, [some (.ref 18), some (.int l1), d2.map .int, some (.int l3), some (.int l4), some (.int l5), d6.map .int], [.int (s0 - l5)])) (h' := (HPf C M o, c, s)) rfl ?_
  exact tb_134_99 L xs C o c s M l1 l3 l4 l5 (s0 - l5) d2 d6 _ h
def b_134_66 (M : CS) (l1 : Int32) (l2 : Int32) (l3 : Int32) (l4 : Int32) (s0 : Int32) : Option (Int32 × CS) := (if l4 = 0 then (if l1 = 0 then if mv_in l2 1000 = true then b_134_96 M l1 l3 l4 s0 ((M.2 2) l2.toNatClampNeg) else none else if mv_in l2 1024 = true then b_134_96 M l1 l3 l4 s0 ((M.2 4) l2.toNatClampNeg) else none) else b_134_99 M l1 l3 l4 s0 0)
theorem tb_134_66 (L : Nat) (xs : Nat → Int32) (C : CS) (o : Nat → Int64) (c s : Nat) (M : CS) (l1 : Int32) (l2 : Int32) (l3 : Int32) (l4 : Int32) (s0 : Int32) (d5 : Option Int32) (d6 : Option Int32) (ret : Int32 × CS) (h : b_134_66 M l1 l2 l3 l4 s0 = some ret) : mv_E (mp L xs) 134 (66, [some (.ref 18), some (.int l1), some (.int l2), some (.int l3), some (.int l4), d5.map .int, d6.map .int], [.int s0]) (HPf C M o, c, s) ((.inl (some (.int ret.1)), (HPf C ret.2 o, c, s))) := by
  unfold b_134_66 at h
  refine mv_E.rT (t := mt_134) rfl 2 (f' := (70, [some (.ref 18), some (.int l1), some (.int l2), some (.int l3), some (.int l4), some (.int s0), d6.map .int], [.int l4])) (h' := (HPf C M o, c, s)) rfl ?_
  by_cases hc2020 : l4 = 0
  · replace h := (if_pos hc2020).symm.trans h
    refine mv_E.go rfl (mi_if_pos hc2020) ?_
    refine mv_E.rT (t := mt_134) rfl 1 (f' := (78, [some (.ref 18), some (.int l1), some (.int l2), some (.int l3), some (.int l4), some (.int s0), d6.map .int], [.int l1])) (h' := (HPf C M o, c, s)) rfl ?_
    by_cases hc2019 : l1 = 0
    · replace h := (if_pos hc2019).symm.trans h
      refine mv_E.go rfl (mi_if_pos hc2019) ?_
      refine mv_E.rT (t := mt_134) rfl 3 (f' := (95, [some (.ref 18), some (.int l1), some (.int l2), some (.int l3), some (.int l4), some (.int s0), d6.map .int], [.int l2, .ref 21])) (h' := (HPf C M o, c, s)) rfl ?_
      by_cases hb2017 : mv_in l2 1000 = true
      rotate_left
      · cases (if_neg hb2017).symm.trans h
      replace h := (if_pos hb2017).symm.trans h
      refine mv_E.go rfl (mi_iald_at rfl hb2017) ?_
      show mv_E (mp L xs) 134 (96, [some (.ref 18), some (.int l1), some (.int l2), some (.int l3), some (.int l4), some (.int s0), d6.map .int], [.int ((M.2 2) l2.toNatClampNeg)]) (HPf C M o, c, s) _
      exact tb_134_96 L xs C o c s M l1 l3 l4 s0 ((M.2 2) l2.toNatClampNeg) (some l2) d6 _ h
    replace h := (if_neg hc2019).symm.trans h
    refine mv_E.go rfl (mi_if_neg hc2019) ?_
    refine mv_E.rT (t := mt_134) rfl 3 (f' := (86, [some (.ref 18), some (.int l1), some (.int l2), some (.int l3), some (.int l4), some (.int s0), d6.map .int], [.int l2, .ref 23])) (h' := (HPf C M o, c, s)) rfl ?_
    by_cases hb2018 : mv_in l2 1024 = true
    rotate_left
    · cases (if_neg hb2018).symm.trans h
    replace h := (if_pos hb2018).symm.trans h
    refine mv_E.go rfl (mi_iald_at rfl hb2018) ?_
    refine mv_E.rT (t := mt_134) rfl 1 (f' := (96, [some (.ref 18), some (.int l1), some (.int l2), some (.int l3), some (.int l4), some (.int s0), d6.map .int], [.int ((M.2 4) l2.toNatClampNeg)])) (h' := (HPf C M o, c, s)) rfl ?_
    exact tb_134_96 L xs C o c s M l1 l3 l4 s0 ((M.2 4) l2.toNatClampNeg) (some l2) d6 _ h
  replace h := (if_neg hc2020).symm.trans h
  refine mv_E.go rfl (mi_if_neg hc2020) ?_
  refine mv_E.rT (t := mt_134) rfl 2 (f' := (99, [some (.ref 18), some (.int l1), some (.int l2), some (.int l3), some (.int l4), some (.int s0), d6.map .int], [.int 0])) (h' := (HPf C M o, c, s)) rfl ?_
  exact tb_134_99 L xs C o c s M l1 l3 l4 s0 0 (some l2) d6 _ h
def b_134_39 (M : CS) (l1 : Int32) (l2 : Int32) (l3 : Int32) (l4 : Int32) : Option (Int32 × CS) := b_134_66 M l1 l2 l3 l4 0
theorem tb_134_39 (L : Nat) (xs : Nat → Int32) (C : CS) (o : Nat → Int64) (c s : Nat) (M : CS) (l1 : Int32) (l2 : Int32) (l3 : Int32) (l4 : Int32) (d5 : Option Int32) (d6 : Option Int32) (ret : Int32 × CS) (h : b_134_39 M l1 l2 l3 l4 = some ret) : mv_E (mp L xs) 134 (39, [some (.ref 18), some (.int l1), some (.int l2), some (.int l3), some (.int l4), d5.map .int, d6.map .int], []) (HPf C M o, c, s) ((.inl (some (.int ret.1)), (HPf C ret.2 o, c, s))) := by
  unfold b_134_39 at h
  refine mv_E.rT (t := mt_134) rfl 2 (f' := (66, [some (.ref 18), some (.int l1), some (.int l2), some (.int l3), some (.int l4), d5.map .int, d6.map .int], [.int 0])) (h' := (HPf C M o, c, s)) rfl ?_
  exact tb_134_66 L xs C o c s M l1 l2 l3 l4 0 d5 d6 _ h
def b_134_28 (M : CS) (l1 : Int32) (l2 : Int32) (l3 : Int32) (s0 : Int32) : Option (Int32 × CS) := (if ¬ s0 = 0 then b_134_39 M l1 l2 l3 s0 else (if ¬ l2 = 0 then (if l1 = 0 then if mv_in (l2 - 1) 1000 = true then b_134_66 M l1 l2 l3 s0 ((M.2 2) (l2 - 1).toNatClampNeg) else none else if mv_in (l2 - 1) 1024 = true then b_134_66 M l1 l2 l3 s0 ((M.2 4) (l2 - 1).toNatClampNeg) else none) else b_134_39 M l1 l2 l3 s0))
theorem tb_134_28 (L : Nat) (xs : Nat → Int32) (C : CS) (o : Nat → Int64) (c s : Nat) (M : CS) (l1 : Int32) (l2 : Int32) (l3 : Int32) (s0 : Int32) (d4 : Option Int32) (d5 : Option Int32) (d6 : Option Int32) (ret : Int32 × CS) (h : b_134_28 M l1 l2 l3 s0 = some ret) : mv_E (mp L xs) 134 (28, [some (.ref 18), some (.int l1), some (.int l2), some (.int l3), d4.map .int, d5.map .int, d6.map .int], [.int s0]) (HPf C M o, c, s) ((.inl (some (.int ret.1)), (HPf C ret.2 o, c, s))) := by
  unfold b_134_28 at h
  refine mv_E.rT (t := mt_134) rfl 2 (f' := (32, [some (.ref 18), some (.int l1), some (.int l2), some (.int l3), some (.int s0), d5.map .int, d6.map .int], [.int s0])) (h' := (HPf C M o, c, s)) rfl ?_
  by_cases hc2030 : ¬ s0 = 0
  · replace h := (if_pos hc2030).symm.trans h
    refine mv_E.go rfl (mi_if_pos hc2030) ?_
    show mv_E (mp L xs) 134 (39, [some (.ref 18), some (.int l1), some (.int l2), some (.int l3), some (.int s0), d5.map .int, d6.map .int], []) (HPf C M o, c, s) _
    exact tb_134_39 L xs C o c s M l1 l2 l3 s0 d5 d6 _ h
  replace h := (if_neg hc2030).symm.trans h
  refine mv_E.go rfl (mi_if_neg hc2030) ?_
  refine mv_E.rT (t := mt_134) rfl 1 (f' := (36, [some (.ref 18), some (.int l1), some (.int l2), some (.int l3), some (.int s0), d5.map .int, d6.map .int], [.int l2])) (h' := (HPf C M o, c, s)) rfl ?_
  by_cases hc2029 : ¬ l2 = 0
  · replace h := (if_pos hc2029).symm.trans h
    refine mv_E.go rfl (mi_if_pos hc2029) ?_
    refine mv_E.rT (t := mt_134) rfl 1 (f' := (44, [some (.ref 18), some (.int l1), some (.int l2), some (.int l3), some (.int s0), d5.map .int, d6.map .int], [.int l1])) (h' := (HPf C M o, c, s)) rfl ?_
    by_cases hc2028 : l1 = 0
    · replace h := (if_pos hc2028).symm.trans h
      refine mv_E.go rfl (mi_if_pos hc2028) ?_
      refine mv_E.rT (t := mt_134) rfl 5 (f' := (65, [some (.ref 18), some (.int l1), some (.int l2), some (.int l3), some (.int s0), d5.map .int, d6.map .int], [.int (l2 - 1), .ref 21])) (h' := (HPf C M o, c, s)) rfl ?_
      by_cases hb2026 : mv_in (l2 - 1) 1000 = true
      rotate_left
      · cases (if_neg hb2026).symm.trans h
      replace h := (if_pos hb2026).symm.trans h
      refine mv_E.go rfl (mi_iald_at rfl hb2026) ?_
      show mv_E (mp L xs) 134 (66, [some (.ref 18), some (.int l1), some (.int l2), some (.int l3), some (.int s0), d5.map .int, d6.map .int], [.int ((M.2 2) (l2 - 1).toNatClampNeg)]) (HPf C M o, c, s) _
      exact tb_134_66 L xs C o c s M l1 l2 l3 s0 ((M.2 2) (l2 - 1).toNatClampNeg) d5 d6 _ h
    replace h := (if_neg hc2028).symm.trans h
    refine mv_E.go rfl (mi_if_neg hc2028) ?_
    refine mv_E.rT (t := mt_134) rfl 5 (f' := (54, [some (.ref 18), some (.int l1), some (.int l2), some (.int l3), some (.int s0), d5.map .int, d6.map .int], [.int (l2 - 1), .ref 23])) (h' := (HPf C M o, c, s)) rfl ?_
    by_cases hb2027 : mv_in (l2 - 1) 1024 = true
    rotate_left
    · cases (if_neg hb2027).symm.trans h
    replace h := (if_pos hb2027).symm.trans h
    refine mv_E.go rfl (mi_iald_at rfl hb2027) ?_
    refine mv_E.rT (t := mt_134) rfl 1 (f' := (66, [some (.ref 18), some (.int l1), some (.int l2), some (.int l3), some (.int s0), d5.map .int, d6.map .int], [.int ((M.2 4) (l2 - 1).toNatClampNeg)])) (h' := (HPf C M o, c, s)) rfl ?_
    exact tb_134_66 L xs C o c s M l1 l2 l3 s0 ((M.2 4) (l2 - 1).toNatClampNeg) d5 d6 _ h
  replace h := (if_neg hc2029).symm.trans h
  refine mv_E.go rfl (mi_if_neg hc2029) ?_
  show mv_E (mp L xs) 134 (39, [some (.ref 18), some (.int l1), some (.int l2), some (.int l3), some (.int s0), d5.map .int, d6.map .int], []) (HPf C M o, c, s) _
  exact tb_134_39 L xs C o c s M l1 l2 l3 s0 d5 d6 _ h
def b_134_23 (M : CS) (l1 : Int32) (l2 : Int32) (l3 : Int32) : Option (Int32 × CS) := b_134_28 M l1 l2 l3 1
theorem tb_134_23 (L : Nat) (xs : Nat → Int32) (C : CS) (o : Nat → Int64) (c s : Nat) (M : CS) (l1 : Int32) (l2 : Int32) (l3 : Int32) (d4 : Option Int32) (d5 : Option Int32) (d6 : Option Int32) (ret : Int32 × CS) (h : b_134_23 M l1 l2 l3 = some ret) : mv_E (mp L xs) 134 (23, [some (.ref 18), some (.int l1), some (.int l2), some (.int l3), d4.map .int, d5.map .int, d6.map .int], []) (HPf C M o, c, s) ((.inl (some (.int ret.1)), (HPf C ret.2 o, c, s))) := by
  unfold b_134_23 at h
  refine mv_E.rT (t := mt_134) rfl 2 (f' := (28, [some (.ref 18), some (.int l1), some (.int l2), some (.int l3), d4.map .int, d5.map .int, d6.map .int], [.int 1])) (h' := (HPf C M o, c, s)) rfl ?_
  exact tb_134_28 L xs C o c s M l1 l2 l3 1 d4 d5 d6 _ h
def b_134_20 (M : CS) (l1 : Int32) (l2 : Int32) (l3 : Int32) (s0 : Int32) (s1 : Int32) : Option (Int32 × CS) := (if s1 < s0 then b_134_28 M l1 l2 l3 0 else b_134_23 M l1 l2 l3)
theorem tb_134_20 (L : Nat) (xs : Nat → Int32) (C : CS) (o : Nat → Int64) (c s : Nat) (M : CS) (l1 : Int32) (l2 : Int32) (l3 : Int32) (s0 : Int32) (s1 : Int32) (d4 : Option Int32) (d5 : Option Int32) (d6 : Option Int32) (ret : Int32 × CS) (h : b_134_20 M l1 l2 l3 s0 s1 = some ret) : mv_E (mp L xs) 134 (20, [some (.ref 18), some (.int l1), some (.int l2), some (.int l3), d4.map .int, d5.map .int, d6.map .int], [.int s0, .int s1]) (HPf C M o, c, s) ((.inl (some (.int ret.1)), (HPf C ret.2 o, c, s))) := by
  unfold b_134_20 at h
  show mv_E (mp L xs) 134 (20, [some (.ref 18), some (.int l1), some (.int l2), some (.int l3), d4.map .int, d5.map .int, d6.map .int], [.int s0, .int s1]) (HPf C M o, c, s) _
  by_cases hc2032 : s1 < s0
  · replace h := (if_pos hc2032).symm.trans h
    refine mv_E.go rfl (mi_icmp_pos hc2032) ?_
    refine mv_E.rT (t := mt_134) rfl 1 (f' := (28, [some (.ref 18), some (.int l1), some (.int l2), some (.int l3), d4.map .int, d5.map .int, d6.map .int], [.int 0])) (h' := (HPf C M o, c, s)) rfl ?_
    exact tb_134_28 L xs C o c s M l1 l2 l3 0 d4 d5 d6 _ h
  replace h := (if_neg hc2032).symm.trans h
  refine mv_E.go rfl (mi_icmp_neg hc2032) ?_
  show mv_E (mp L xs) 134 (23, [some (.ref 18), some (.int l1), some (.int l2), some (.int l3), d4.map .int, d5.map .int, d6.map .int], []) (HPf C M o, c, s) _
  exact tb_134_23 L xs C o c s M l1 l2 l3 d4 d5 d6 _ h
def f_134 (M : CS) (p0 : Int32) (p1 : Int32) (p2 : Int32) : Option (Int32 × CS) := (if p1 < 0 then b_134_23 M p0 p1 p2 else (if p0 = 0 then b_134_20 M p0 p1 p2 (M.1 13) p1 else b_134_20 M p0 p1 p2 (M.1 14) p1))
theorem t_134 (L : Nat) (xs : Nat → Int32) {C M : CS} {o : Nat → Int64} {c s : Nat} {p0 : Int32} {p1 : Int32} {p2 : Int32} {ret : Int32 × CS} (h : f_134 M p0 p1 p2 = some ret) : mv_E (mp L xs) 134 (0, [some (.ref 18), some (.int p0), some (.int p1), some (.int p2), none, none, none], []) (HPf C M o, c, s) ((.inl (some (.int ret.1)), (HPf C ret.2 o, c, s))) := by
  unfold f_134 at h
  refine mv_E.rT (t := mt_134) rfl 1 (f' := (1, [some (.ref 18), some (.int p0), some (.int p1), some (.int p2), none, none, none], [.int p1])) (h' := (HPf C M o, c, s)) rfl ?_
  by_cases hc2034 : p1 < 0
  · replace h := (if_pos hc2034).symm.trans h
    refine mv_E.go rfl (mi_if_pos hc2034) ?_
    show mv_E (mp L xs) 134 (23, [some (.ref 18), some (.int p0), some (.int p1), some (.int p2), none, none, none], []) (HPf C M o, c, s) _
    exact tb_134_23 L xs C o c s M p0 p1 p2 none none none _ h
  replace h := (if_neg hc2034).symm.trans h
  refine mv_E.go rfl (mi_if_neg hc2034) ?_
  refine mv_E.rT (t := mt_134) rfl 2 (f' := (6, [some (.ref 18), some (.int p0), some (.int p1), some (.int p2), none, none, none], [.int p0, .int p1])) (h' := (HPf C M o, c, s)) rfl ?_
  by_cases hc2033 : p0 = 0
  · replace h := (if_pos hc2033).symm.trans h
    refine mv_E.go rfl (mi_if_pos hc2033) ?_
    refine mv_E.rT (t := mt_134) rfl 2 (f' := (20, [some (.ref 18), some (.int p0), some (.int p1), some (.int p2), none, none, none], [.int (M.1 13), .int p1])) (h' := (HPf C M o, c, s)) rfl ?_
    exact tb_134_20 L xs C o c s M p0 p1 p2 (M.1 13) p1 none none none _ h
  replace h := (if_neg hc2033).symm.trans h
  refine mv_E.go rfl (mi_if_neg hc2033) ?_
  refine mv_E.rT (t := mt_134) rfl 3 (f' := (20, [some (.ref 18), some (.int p0), some (.int p1), some (.int p2), none, none, none], [.int (M.1 14), .int p1])) (h' := (HPf C M o, c, s)) rfl ?_
  exact tb_134_20 L xs C o c s M p0 p1 p2 (M.1 14) p1 none none none _ h
def f_21 (C : CS) (o : Nat → Int64) (p0 : Int64) (p1 : Int32) : Option (Int32 × CS × (Nat → Int64) × Nat) := (f_20 C p0 p1).bind fun r => match r.1 with | .inl v => some (0, r.2, (vp_updL o 0 v.toInt64), 0) | .inr k => (bif Nat.beq k 0 then some (1, r.2, o, 1) else (bif Nat.beq k 1 then some (2, r.2, o, 1) else none))
theorem t_21 (L : Nat) (xs : Nat → Int32) {C M : CS} {o : Nat → Int64} {c s : Nat} {p0 : Int64} {p1 : Int32} {ret : Int32 × CS × (Nat → Int64) × Nat} (h : f_21 C o p0 p1 = some ret) : mv_E (mp L xs) 21 (0, [some (.ref 0), some (.long p0), none, some (.int p1), some (.ref 25), none], []) (HPf C M o, c, s) (.inl (some (.int ret.1)), (HPf ret.2.1 M ret.2.2.1, c + ret.2.2.2, s + 6 * ret.2.2.2)) := by
  unfold f_21 at h
  refine mv_E.rT (t := mt_21) rfl 5 (f' := (6, [some (.ref 0), some (.long p0), none, some (.int p1), some (.ref 25), none], [.int p1, .long p0, .ref 0, .int 0, .ref 25])) (h' := (HPf C M o, c, s)) rfl ?_
  obtain ⟨⟨r, C1⟩, hr, h⟩ := Option.bind_eq_some_iff.mp h
  rcases r with v | k
  · cases h
    refine mv_E.call (z := 20) (vs := [.ref 0, .long p0, .int p1]) (f' := (9, [some (.ref 0), some (.long p0), none, some (.int p1), some (.ref 25), none], [.int 0, .ref 25])) (h' := (HPf C M o, c, s)) rfl rfl rfl (t_20 L xs hr) (mv_okl rfl) ?_
    refine mv_E.rT (t := mt_21) rfl 4 (f' := (23, [some (.ref 0), some (.long p0), none, some (.int p1), some (.ref 25), none], [.int 0])) (h' := (HPf C1 M (vp_updL o 0 v.toInt64), c, s)) rfl ?_
    exact mv_E.done rfl rfl
  rcases k with _ | _ | k
  · cases h
    refine mv_E.callC (pc := 16) (i := 5) (z := 20) (vs := [.ref 0, .long p0, .int p1]) (f' := (9, [some (.ref 0), some (.long p0), none, some (.int p1), some (.ref 25), none], [.int 0, .ref 25])) (h' := (HPf C M o, c, s)) rfl rfl rfl (t_20 L xs hr) rfl (mv_okl rfl) ?_
    refine mv_E.rT (t := mt_21) rfl 1 (f' := (17, [some (.ref 0), some (.long p0), none, some (.int p1), some (.ref 25), none], [.int 1])) (h' := (HPf C1 M o, c + 1, s + 6)) rfl ?_
    exact mv_E.done rfl rfl
  · cases h
    refine mv_E.callC (pc := 20) (i := 5) (z := 20) (vs := [.ref 0, .long p0, .int p1]) (f' := (9, [some (.ref 0), some (.long p0), none, some (.int p1), some (.ref 25), none], [.int 0, .ref 25])) (h' := (HPf C M o, c, s)) rfl rfl rfl (t_20 L xs hr) rfl (mv_okl rfl) ?_
    refine mv_E.rT (t := mt_21) rfl 1 (f' := (21, [some (.ref 0), some (.long p0), none, some (.int p1), some (.ref 25), none], [.int 2])) (h' := (HPf C1 M o, c + 1, s + 6)) rfl ?_
    exact mv_E.done rfl rfl
  · cases h
def f_65 (C : CS) (o : Nat → Int64) : Option (Int32 × CS × (Nat → Int64) × Nat) := (f_64 C).bind fun r => match r.1 with | .inl v => some (0, r.2, (vp_updL o 0 v.toInt64), 0) | .inr k => (bif Nat.beq k 0 then some (1, r.2, o, 1) else (bif Nat.beq k 1 then some (2, r.2, o, 1) else none))
theorem t_65 (L : Nat) (xs : Nat → Int32) {C M : CS} {o : Nat → Int64} {c s : Nat} {ret : Int32 × CS × (Nat → Int64) × Nat} (h : f_65 C o = some ret) : mv_E (mp L xs) 65 (0, [some (.ref 0), some (.ref 25), none], []) (HPf C M o, c, s) (.inl (some (.int ret.1)), (HPf ret.2.1 M ret.2.2.1, c + ret.2.2.2, s + 6 * ret.2.2.2)) := by
  unfold f_65 at h
  refine mv_E.rT (t := mt_65) rfl 3 (f' := (3, [some (.ref 0), some (.ref 25), none], [.ref 0, .int 0, .ref 25])) (h' := (HPf C M o, c, s)) rfl ?_
  obtain ⟨⟨r, C1⟩, hr, h⟩ := Option.bind_eq_some_iff.mp h
  rcases r with v | k
  · cases h
    refine mv_E.call (z := 64) (vs := [.ref 0]) (f' := (6, [some (.ref 0), some (.ref 25), none], [.int 0, .ref 25])) (h' := (HPf C M o, c, s)) rfl rfl rfl (t_64 L xs hr) (mv_okl rfl) ?_
    refine mv_E.rT (t := mt_65) rfl 4 (f' := (18, [some (.ref 0), some (.ref 25), none], [.int 0])) (h' := (HPf C1 M (vp_updL o 0 v.toInt64), c, s)) rfl ?_
    exact mv_E.done rfl rfl
  rcases k with _ | _ | k
  · cases h
    refine mv_E.callC (pc := 12) (i := 2) (z := 64) (vs := [.ref 0]) (f' := (6, [some (.ref 0), some (.ref 25), none], [.int 0, .ref 25])) (h' := (HPf C M o, c, s)) rfl rfl rfl (t_64 L xs hr) rfl (mv_okl rfl) ?_
    refine mv_E.rT (t := mt_65) rfl 1 (f' := (13, [some (.ref 0), some (.ref 25), none], [.int 1])) (h' := (HPf C1 M o, c + 1, s + 6)) rfl ?_
    exact mv_E.done rfl rfl
  · cases h
    refine mv_E.callC (pc := 15) (i := 2) (z := 64) (vs := [.ref 0]) (f' := (6, [some (.ref 0), some (.ref 25), none], [.int 0, .ref 25])) (h' := (HPf C M o, c, s)) rfl rfl rfl (t_64 L xs hr) rfl (mv_okl rfl) ?_
    refine mv_E.rT (t := mt_65) rfl 1 (f' := (16, [some (.ref 0), some (.ref 25), none], [.int 2])) (h' := (HPf C1 M o, c + 1, s + 6)) rfl ?_
    exact mv_E.done rfl rfl
  · cases h
def f_94 (C : CS) (o : Nat → Int64) : Option (Int32 × CS × (Nat → Int64) × Nat) := (f_93 C).bind fun r => match r.1 with | .inl v => some (0, r.2, (vp_updL o 0 v.toInt64), 0) | .inr k => (bif Nat.beq k 0 then some (1, r.2, o, 1) else (bif Nat.beq k 1 then some (2, r.2, o, 1) else none))
theorem t_94 (L : Nat) (xs : Nat → Int32) {C M : CS} {o : Nat → Int64} {c s : Nat} {ret : Int32 × CS × (Nat → Int64) × Nat} (h : f_94 C o = some ret) : mv_E (mp L xs) 94 (0, [some (.ref 0), some (.ref 25), none], []) (HPf C M o, c, s) (.inl (some (.int ret.1)), (HPf ret.2.1 M ret.2.2.1, c + ret.2.2.2, s + 6 * ret.2.2.2)) := by
  unfold f_94 at h
  refine mv_E.rT (t := mt_94) rfl 3 (f' := (3, [some (.ref 0), some (.ref 25), none], [.ref 0, .int 0, .ref 25])) (h' := (HPf C M o, c, s)) rfl ?_
  obtain ⟨⟨r, C1⟩, hr, h⟩ := Option.bind_eq_some_iff.mp h
  rcases r with v | k
  · cases h
    refine mv_E.call (z := 93) (vs := [.ref 0]) (f' := (6, [some (.ref 0), some (.ref 25), none], [.int 0, .ref 25])) (h' := (HPf C M o, c, s)) rfl rfl rfl (t_93 L xs hr) (mv_okl rfl) ?_
    refine mv_E.rT (t := mt_94) rfl 4 (f' := (18, [some (.ref 0), some (.ref 25), none], [.int 0])) (h' := (HPf C1 M (vp_updL o 0 v.toInt64), c, s)) rfl ?_
    exact mv_E.done rfl rfl
  rcases k with _ | _ | k
  · cases h
    refine mv_E.callC (pc := 12) (i := 2) (z := 93) (vs := [.ref 0]) (f' := (6, [some (.ref 0), some (.ref 25), none], [.int 0, .ref 25])) (h' := (HPf C M o, c, s)) rfl rfl rfl (t_93 L xs hr) rfl (mv_okl rfl) ?_
    refine mv_E.rT (t := mt_94) rfl 1 (f' := (13, [some (.ref 0), some (.ref 25), none], [.int 1])) (h' := (HPf C1 M o, c + 1, s + 6)) rfl ?_
    exact mv_E.done rfl rfl
  · cases h
    refine mv_E.callC (pc := 15) (i := 2) (z := 93) (vs := [.ref 0]) (f' := (6, [some (.ref 0), some (.ref 25), none], [.int 0, .ref 25])) (h' := (HPf C M o, c, s)) rfl rfl rfl (t_93 L xs hr) rfl (mv_okl rfl) ?_
    refine mv_E.rT (t := mt_94) rfl 1 (f' := (16, [some (.ref 0), some (.ref 25), none], [.int 2])) (h' := (HPf C1 M o, c + 1, s + 6)) rfl ?_
    exact mv_E.done rfl rfl
  · cases h
def f_99 (C : CS) (o : Nat → Int64) : Option (Int32 × CS × (Nat → Int64) × Nat) := (f_98 C).bind fun r => match r.1 with | .inl v => some (0, r.2, (vp_updL o 0 v.toInt64), 0) | .inr k => (bif Nat.beq k 0 then some (1, r.2, o, 1) else (bif Nat.beq k 1 then some (2, r.2, o, 1) else none))
theorem t_99 (L : Nat) (xs : Nat → Int32) {C M : CS} {o : Nat → Int64} {c s : Nat} {ret : Int32 × CS × (Nat → Int64) × Nat} (h : f_99 C o = some ret) : mv_E (mp L xs) 99 (0, [some (.ref 0), some (.ref 25), none], []) (HPf C M o, c, s) (.inl (some (.int ret.1)), (HPf ret.2.1 M ret.2.2.1, c + ret.2.2.2, s + 6 * ret.2.2.2)) := by
  unfold f_99 at h
  refine mv_E.rT (t := mt_99) rfl 3 (f' := (3, [some (.ref 0), some (.ref 25), none], [.ref 0, .int 0, .ref 25])) (h' := (HPf C M o, c, s)) rfl ?_
  obtain ⟨⟨r, C1⟩, hr, h⟩ := Option.bind_eq_some_iff.mp h
  rcases r with v | k
  · cases h
    refine mv_E.call (z := 98) (vs := [.ref 0]) (f' := (6, [some (.ref 0), some (.ref 25), none], [.int 0, .ref 25])) (h' := (HPf C M o, c, s)) rfl rfl rfl (t_98 L xs hr) (mv_okl rfl) ?_
    refine mv_E.rT (t := mt_99) rfl 4 (f' := (18, [some (.ref 0), some (.ref 25), none], [.int 0])) (h' := (HPf C1 M (vp_updL o 0 v.toInt64), c, s)) rfl ?_
    exact mv_E.done rfl rfl
  rcases k with _ | _ | k
  · cases h
    refine mv_E.callC (pc := 12) (i := 2) (z := 98) (vs := [.ref 0]) (f' := (6, [some (.ref 0), some (.ref 25), none], [.int 0, .ref 25])) (h' := (HPf C M o, c, s)) rfl rfl rfl (t_98 L xs hr) rfl (mv_okl rfl) ?_
    refine mv_E.rT (t := mt_99) rfl 1 (f' := (13, [some (.ref 0), some (.ref 25), none], [.int 1])) (h' := (HPf C1 M o, c + 1, s + 6)) rfl ?_
    exact mv_E.done rfl rfl
  · cases h
    refine mv_E.callC (pc := 15) (i := 2) (z := 98) (vs := [.ref 0]) (f' := (6, [some (.ref 0), some (.ref 25), none], [.int 0, .ref 25])) (h' := (HPf C M o, c, s)) rfl rfl rfl (t_98 L xs hr) rfl (mv_okl rfl) ?_
    refine mv_E.rT (t := mt_99) rfl 1 (f' := (16, [some (.ref 0), some (.ref 25), none], [.int 2])) (h' := (HPf C1 M o, c + 1, s + 6)) rfl ?_
    exact mv_E.done rfl rfl
  · cases h
