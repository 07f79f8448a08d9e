def b_79_50 (k_19 : Nat → Int32 → Int32 → Option (Int32)) (M : CS) (l1 : Nat) (l3 : Int32) (s0 : Int32) : Option (Int32) := k_19 l1 s0 (l3 + 1)
theorem tb_79_50 (L : Nat) (xs : Nat → Int32) (C : CS) (o : Nat → Int64) (c s : Nat) (M : CS) (k_19 : Nat → Int32 → Int32 → Option (Int32)) (hk_19 : ∀ (l1 : Nat) (l2 : Int32) (l3 : Int32) (ret : Int32), k_19 l1 l2 l3 = some ret → mv_E (mp L xs) 79 (19, [some (.ref 18), some (.retAddr l1), some (.int l2), some (.int l3)], []) (HPf C M o, c, s) ((.inl (some (.int ret)), (HPf C M o, c, s)))) (l1 : Nat) (l3 : Int32) (s0 : Int32) (d2 : Option Int32) (ret : Int32) (h : b_79_50 k_19 M l1 l3 s0 = some ret) : mv_E (mp L xs) 79 (50, [some (.ref 18), some (.retAddr l1), d2.map .int, some (.int l3)], [.int s0]) (HPf C M o, c, s) ((.inl (some (.int ret)), (HPf C M o, c, s))) := by
  unfold b_79_50 at h
  refine mv_E.rT (t := mt_79) rfl 3 (f' := (19, [some (.ref 18), some (.retAddr l1), some (.int s0), some (.int (l3 + 1))], [])) (h' := (HPf C M o, c, s)) rfl ?_
  exact hk_19 l1 s0 (l3 + 1) _ h
def b_79_19 : Nat → CS → Nat → Int32 → Int32 → Option (Int32)
  | 0, _, _, _, _ => none
  | n + 1, M, l1, l2, l3 => (if (M.1 12) ≤ l3 then if l2 = 0 ∨ l2 = 1 then some l2 else none else (if l2 = 0 then if l2 = 0 ∨ l2 = 1 then some l2 else none else if sok l1 l3 = true then if mv_in l3 2000 = true then (if ¬ (sc l1 l3) = ((M.2 1) l3.toNatClampNeg) then b_79_50 (b_79_19 n M) M l1 l3 0 else b_79_50 (b_79_19 n M) M l1 l3 1) else none else none))
theorem tb_79_19 (L : Nat) (xs : Nat → Int32) (C : CS) (o : Nat → Int64) (c s : Nat) : ∀ (n : Nat) (M : CS) (l1 : Nat) (l2 : Int32) (l3 : Int32) (ret : Int32), b_79_19 n M l1 l2 l3 = some ret → mv_E (mp L xs) 79 (19, [some (.ref 18), some (.retAddr l1), some (.int l2), some (.int l3)], []) (HPf C M o, c, s) ((.inl (some (.int ret)), (HPf C M o, c, s))) := by
  intro n
  induction n with
  | zero => intro M l1 l2 l3 ret h; rw [b_79_19] at h; cases h
  | succ n ih =>
    intro M l1 l2 l3 ret h
    rw [b_79_19] at h
    refine mv_E.rT (t := mt_79) rfl 3 (f' := (24, [some (.ref 18), some (.retAddr l1), some (.int l2), some (.int l3)], [.int (M.1 12), .int l3])) (h' := (HPf C M o, c, s)) rfl ?_
    by_cases hc1073 : (M.1 12) ≤ l3
    · replace h := (if_pos hc1073).symm.trans h
      refine mv_E.go rfl (mi_icmp_pos hc1073) ?_
      refine mv_E.rT (t := mt_79) rfl 1 (f' := (58, [some (.ref 18), some (.retAddr l1), some (.int l2), some (.int l3)], [.int l2])) (h' := (HPf C M o, c, s)) rfl ?_
      by_cases hz1067 : l2 = 0 ∨ l2 = 1
      rotate_left
      · cases (if_neg hz1067).symm.trans h
      replace h := (if_pos hz1067).symm.trans h
      cases h
      exact mv_E.done rfl (mi_zret_at hz1067)
    replace h := (if_neg hc1073).symm.trans h
    refine mv_E.go rfl (mi_icmp_neg hc1073) ?_
    refine mv_E.rT (t := mt_79) rfl 1 (f' := (28, [some (.ref 18), some (.retAddr l1), some (.int l2), some (.int l3)], [.int l2])) (h' := (HPf C M o, c, s)) rfl ?_
    by_cases hc1072 : l2 = 0
    · replace h := (if_pos hc1072).symm.trans h
      refine mv_E.go rfl (mi_if_pos hc1072) ?_
      refine mv_E.rT (t := mt_79) rfl 1 (f' := (58, [some (.ref 18), some (.retAddr l1), some (.int l2), some (.int l3)], [.int l2])) (h' := (HPf C M o, c, s)) rfl ?_
      by_cases hz1068 : l2 = 0 ∨ l2 = 1
      rotate_left
      · cases (if_neg hz1068).symm.trans h
      replace h := (if_pos hz1068).symm.trans h
      cases h
      exact mv_E.done rfl (mi_zret_at hz1068)
    replace h := (if_neg hc1072).symm.trans h
    refine mv_E.go rfl (mi_if_neg hc1072) ?_
    refine mv_E.rT (t := mt_79) rfl 2 (f' := (33, [some (.ref 18), some (.retAddr l1), some (.int l2), some (.int l3)], [.int l3, .retAddr l1])) (h' := (HPf C M o, c, s)) rfl ?_
    by_cases hq1071 : sok l1 l3 = true
    rotate_left
    · cases (if_neg hq1071).symm.trans h
    replace h := (if_pos hq1071).symm.trans h
    refine mv_E.call (z := 8) (vs := [.retAddr l1, .int l3]) (f' := (36, [some (.ref 18), some (.retAddr l1), some (.int l2), some (.int l3)], [])) (h' := (HPf C M o, c, s)) rfl (mi_callK_at rfl (sok_q hq1071) rfl rfl) rfl (t_char L xs hq1071) mv_okr ?_
    refine mv_E.rT (t := mt_79) rfl 3 (f' := (41, [some (.ref 18), some (.retAddr l1), some (.int l2), some (.int l3)], [.int l3, .ref 20, .int (sc l1 l3)])) (h' := (HPf C M o, c, s)) rfl ?_
    by_cases hb1069 : mv_in l3 2000 = true
    rotate_left
    · cases (if_neg hb1069).symm.trans h
    replace h := (if_pos hb1069).symm.trans h
    refine mv_E.go rfl (mi_iald_at rfl hb1069) ?_
    show mv_E (mp L xs) 79 (42, [some (.ref 18), some (.retAddr l1), some (.int l2), some (.int l3)], [.int ((M.2 1) l3.toNatClampNeg), .int (sc l1 l3)]) (HPf C M o, c, s) _
    by_cases hc1070 : ¬ (sc l1 l3) = ((M.2 1) l3.toNatClampNeg)
    · replace h := (if_pos hc1070).symm.trans h
      refine mv_E.go rfl (mi_icmp_pos hc1070) ?_
      refine mv_E.rT (t := mt_79) rfl 1 (f' := (50, [some (.ref 18), some (.retAddr l1), some (.int l2), some (.int l3)], [.int 0])) (h' := (HPf C M o, c, s)) rfl ?_
      exact tb_79_50 L xs C o c s M (b_79_19 n M) (ih M) l1 l3 0 (some l2) _ h
    replace h := (if_neg hc1070).symm.trans h
    refine mv_E.go rfl (mi_icmp_neg hc1070) ?_
    refine mv_E.rT (t := mt_79) rfl 2 (f' := (50, [some (.ref 18), some (.retAddr l1), some (.int l2), some (.int l3)], [.int 1])) (h' := (HPf C M o, c, s)) rfl ?_
    exact tb_79_50 L xs C o c s M (b_79_19 n M) (ih M) l1 l3 1 (some l2) _ h
def b_79_16 (M : CS) (l1 : Nat) (s0 : Int32) : Option (Int32) := b_79_19 fu M l1 s0 0
theorem tb_79_16 (L : Nat) (xs : Nat → Int32) (C : CS) (o : Nat → Int64) (c s : Nat) (M : CS) (l1 : Nat) (s0 : Int32) (d2 : Option Int32) (d3 : Option Int32) (ret : Int32) (h : b_79_16 M l1 s0 = some ret) : mv_E (mp L xs) 79 (16, [some (.ref 18), some (.retAddr l1), d2.map .int, d3.map .int], [.int s0]) (HPf C M o, c, s) ((.inl (some (.int ret)), (HPf C M o, c, s))) := by
  unfold b_79_16 at h
  refine mv_E.rT (t := mt_79) rfl 3 (f' := (19, [some (.ref 18), some (.retAddr l1), some (.int s0), some (.int 0)], [])) (h' := (HPf C M o, c, s)) rfl ?_
  exact tb_79_19 L xs C o c s fu M l1 s0 0 _ h
def f_79 (M : CS) (p0 : Nat) : Option (Int32) := if Nat.blt p0 101 = true then (if ¬ (sl p0) = (M.1 12) then b_79_16 M p0 0 else b_79_16 M p0 1) else none
theorem t_79 (L : Nat) (xs : Nat → Int32) {C M : CS} {o : Nat → Int64} {c s : Nat} {p0 : Nat} {ret : Int32} (h : f_79 M p0 = some ret) : mv_E (mp L xs) 79 (0, [some (.ref 18), some (.retAddr p0), none, none], []) (HPf C M o, c, s) ((.inl (some (.int ret)), (HPf C M o, c, s))) := by
  unfold f_79 at h
  refine mv_E.rT (t := mt_79) rfl 1 (f' := (1, [some (.ref 18), some (.retAddr p0), none, none], [.retAddr p0])) (h' := (HPf C M o, c, s)) rfl ?_
  by_cases hq1075 : Nat.blt p0 101 = true
  rotate_left
  · cases (if_neg hq1075).symm.trans h
  replace h := (if_pos hq1075).symm.trans h
  refine mv_E.call (z := 3) (vs := [.retAddr p0]) (f' := (4, [some (.ref 18), some (.retAddr p0), none, none], [])) (h' := (HPf C M o, c, s)) rfl (mi_callK_at rfl hq1075 rfl rfl) rfl (t_len L xs hq1075) mv_okr ?_
  refine mv_E.rT (t := mt_79) rfl 2 (f' := (8, [some (.ref 18), some (.retAddr p0), none, none], [.int (M.1 12), .int (sl p0)])) (h' := (HPf C M o, c, s)) rfl ?_
  by_cases hc1074 : ¬ (sl p0) = (M.1 12)
  · replace h := (if_pos hc1074).symm.trans h
    refine mv_E.go rfl (mi_icmp_pos hc1074) ?_
    refine mv_E.rT (t := mt_79) rfl 1 (f' := (16, [some (.ref 18), some (.retAddr p0), none, none], [.int 0])) (h' := (HPf C M o, c, s)) rfl ?_
    exact tb_79_16 L xs C o c s M p0 0 none none _ h
  replace h := (if_neg hc1074).symm.trans h
  refine mv_E.go rfl (mi_icmp_neg hc1074) ?_
  refine mv_E.rT (t := mt_79) rfl 2 (f' := (16, [some (.ref 18), some (.retAddr p0), none, none], [.int 1])) (h' := (HPf C M o, c, s)) rfl ?_
  exact tb_79_16 L xs C o c s M p0 1 none none _ h
def b_80_26 (k_4 : Int32 → Int32 → Option (Int32)) (M : CS) (l2 : Int32) (s0 : Int32) : Option (Int32) := k_4 s0 (l2 + 1)
theorem tb_80_26 (L : Nat) (xs : Nat → Int32) (C : CS) (o : Nat → Int64) (c s : Nat) (M : CS) (k_4 : Int32 → Int32 → Option (Int32)) (hk_4 : ∀ (l1 : Int32) (l2 : Int32) (ret : Int32), k_4 l1 l2 = some ret → mv_E (mp L xs) 80 (4, [some (.ref 18), some (.int l1), some (.int l2)], []) (HPf C M o, c, s) ((.inl (some (.int ret)), (HPf C M o, c, s)))) (l2 : Int32) (s0 : Int32) (d1 : Option Int32) (ret : Int32) (h : b_80_26 k_4 M l2 s0 = some ret) : mv_E (mp L xs) 80 (26, [some (.ref 18), d1.map .int, some (.int l2)], [.int s0]) (HPf C M o, c, s) ((.inl (some (.int ret)), (HPf C M o, c, s))) := by
  unfold b_80_26 at h
  refine mv_E.rT (t := mt_80) rfl 3 (f' := (4, [some (.ref 18), some (.int s0), some (.int (l2 + 1))], [])) (h' := (HPf C M o, c, s)) rfl ?_
  exact hk_4 s0 (l2 + 1) _ h
def b_80_4 : Nat → CS → Int32 → Int32 → Option (Int32)
  | 0, _, _, _ => none
  | n + 1, M, l1, l2 => (if 45 ≤ l2 then some l1 else (f_79 M (f_78 l2)).bind fun r1076 => (if r1076 = 0 then b_80_26 (b_80_4 n M) M l2 l1 else b_80_26 (b_80_4 n M) M l2 l2))
theorem tb_80_4 (L : Nat) (xs : Nat → Int32) (C : CS) (o : Nat → Int64) (c s : Nat) : ∀ (n : Nat) (M : CS) (l1 : Int32) (l2 : Int32) (ret : Int32), b_80_4 n M l1 l2 = some ret → mv_E (mp L xs) 80 (4, [some (.ref 18), some (.int l1), some (.int l2)], []) (HPf C M o, c, s) ((.inl (some (.int ret)), (HPf C M o, c, s))) := by
  intro n
  induction n with
  | zero => intro M l1 l2 ret h; rw [b_80_4] at h; cases h
  | succ n ih =>
    intro M l1 l2 ret h
    rw [b_80_4] at h
    refine mv_E.rT (t := mt_80) rfl 2 (f' := (7, [some (.ref 18), some (.int l1), some (.int l2)], [.int 45, .int l2])) (h' := (HPf C M o, c, s)) rfl ?_
    by_cases hc1083 : 45 ≤ l2
    · replace h := (if_pos hc1083).symm.trans h
      refine mv_E.go rfl (mi_icmp_pos hc1083) ?_
      refine mv_E.rT (t := mt_80) rfl 1 (f' := (34, [some (.ref 18), some (.int l1), some (.int l2)], [.int l1])) (h' := (HPf C M o, c, s)) rfl ?_
      cases h
      exact mv_E.done rfl rfl
    replace h := (if_neg hc1083).symm.trans h
    refine mv_E.go rfl (mi_icmp_neg hc1083) ?_
    refine mv_E.rT (t := mt_80) rfl 2 (f' := (12, [some (.ref 18), some (.int l1), some (.int l2)], [.int l2, .ref 18])) (h' := (HPf C M o, c, s)) rfl ?_
    refine mv_E.call (z := 78) (vs := [.int l2]) (f' := (15, [some (.ref 18), some (.int l1), some (.int l2)], [.ref 18])) (h' := (HPf C M o, c, s)) rfl rfl rfl (t_78 L xs rfl) (mv_okl rfl) ?_
    show mv_E (mp L xs) 80 (15, [some (.ref 18), some (.int l1), some (.int l2)], [.retAddr (f_78 l2), .ref 18]) (HPf C M o, c, s) _
    obtain ⟨r1080, hr1081, h⟩ := Option.bind_eq_some_iff.mp h
    refine mv_E.call (z := 79) (vs := [.ref 18, .retAddr (f_78 l2)]) (f' := (18, [some (.ref 18), some (.int l1), some (.int l2)], [])) (h' := (HPf C M o, c, s)) rfl rfl rfl (t_79 L xs hr1081) (mv_okl rfl) ?_
    show mv_E (mp L xs) 80 (18, [some (.ref 18), some (.int l1), some (.int l2)], [.int r1080]) (HPf C M o, c, s) _
    by_cases hc1082 : r1080 = 0
    · replace h := (if_pos hc1082).symm.trans h
      refine mv_E.go rfl (mi_if_pos hc1082) ?_
      refine mv_E.rT (t := mt_80) rfl 1 (f' := (26, [some (.ref 18), some (.int l1), some (.int l2)], [.int l1])) (h' := (HPf C M o, c, s)) rfl ?_
      exact tb_80_26 L xs C o c s M (b_80_4 n M) (ih M) l2 l1 (some l1) _ h
    replace h := (if_neg hc1082).symm.trans h
    refine mv_E.go rfl (mi_if_neg hc1082) ?_
    refine mv_E.rT (t := mt_80) rfl 2 (f' := (26, [some (.ref 18), some (.int l1), some (.int l2)], [.int l2])) (h' := (HPf C M o, c, s)) rfl ?_
    exact tb_80_26 L xs C o c s M (b_80_4 n M) (ih M) l2 l2 (some l1) _ h
def f_80 (M : CS) : Option (Int32) := b_80_4 fu M (-1) 0
theorem t_80 (L : Nat) (xs : Nat → Int32) {C M : CS} {o : Nat → Int64} {c s : Nat} {ret : Int32} (h : f_80 M = some ret) : mv_E (mp L xs) 80 (0, [some (.ref 18), none, none], []) (HPf C M o, c, s) ((.inl (some (.int ret)), (HPf C M o, c, s))) := by
  unfold f_80 at h
  refine mv_E.rT (t := mt_80) rfl 4 (f' := (4, [some (.ref 18), some (.int (-1)), some (.int 0)], [])) (h' := (HPf C M o, c, s)) rfl ?_
  exact tb_80_4 L xs C o c s fu M (-1) 0 _ h
def f_77 (M : CS) (p0 : Int32) : Option (CS) := if mv_in (M.1 12) 2000 = true then some (ru (M.1) 12 (((M.1 12) + 1)), ru (M.2) 1 (upd (M.2 1) (M.1 12).toNatClampNeg p0)) else none
theorem t_77 (L : Nat) (xs : Nat → Int32) {C M : CS} {o : Nat → Int64} {c s : Nat} {p0 : Int32} {ret : CS} (h : f_77 M p0 = some ret) : mv_E (mp L xs) 77 (0, [some (.ref 18), some (.int p0)], []) (HPf C M o, c, s) ((.inl none, (HPf C ret o, c, s))) := by
  unfold f_77 at h
  refine mv_E.rT (t := mt_77) rfl 5 (f' := (9, [some (.ref 18), some (.int p0)], [.int p0, .int (M.1 12), .ref 20])) (h' := (HPf C M o, c, s)) rfl ?_
  by_cases hb1090 : mv_in (M.1 12) 2000 = true
  rotate_left
  · cases (if_neg hb1090).symm.trans h
  replace h := (if_pos hb1090).symm.trans h
  refine mv_E.go rfl (mi_iast_at rfl hb1090) ?_
  refine mv_E.rT (t := mt_77) rfl 6 (f' := (20, [some (.ref 18), some (.int p0)], [])) (h' := (HPf C (ru (M.1) 12 (((M.1 12) + 1)), ru (M.2) 1 (upd (M.2 1) (M.1 12).toNatClampNeg p0)) o, c, s)) rfl ?_
  cases h
  exact mv_E.done rfl rfl
def f_74 (p0 : Int32) : Int32 := (if p0 < 48 then 0 else (if 57 < p0 then 0 else 1))
theorem t_74 (L : Nat) (xs : Nat → Int32) {hh : mv_H} {p0 : Int32} {ret : Int32} (h : f_74 p0 = ret) : mv_E (mp L xs) 74 (0, [some (.int p0)], []) hh ((.inl (some (.int ret)), hh)) := by
  unfold f_74 at h
  refine mv_E.rT (t := mt_74) rfl 2 (f' := (3, [some (.int p0)], [.int 48, .int p0])) (h' := hh) rfl ?_
  by_cases hc1096 : p0 < 48
  · replace h := (if_pos hc1096).symm.trans h
    refine mv_E.go rfl (mi_icmp_pos hc1096) ?_
    refine mv_E.rT (t := mt_74) rfl 1 (f' := (17, [some (.int p0)], [.int 0])) (h' := hh) rfl ?_
    cases h
    exact mv_E.done rfl mi_zret0
  replace h := (if_neg hc1096).symm.trans h
  refine mv_E.go rfl (mi_icmp_neg hc1096) ?_
  refine mv_E.rT (t := mt_74) rfl 2 (f' := (9, [some (.int p0)], [.int 57, .int p0])) (h' := hh) rfl ?_
  by_cases hc1095 : 57 < p0
  · replace h := (if_pos hc1095).symm.trans h
    refine mv_E.go rfl (mi_icmp_pos hc1095) ?_
    refine mv_E.rT (t := mt_74) rfl 1 (f' := (17, [some (.int p0)], [.int 0])) (h' := hh) rfl ?_
    cases h
    exact mv_E.done rfl mi_zret0
  replace h := (if_neg hc1095).symm.trans h
  refine mv_E.go rfl (mi_icmp_neg hc1095) ?_
  refine mv_E.rT (t := mt_74) rfl 2 (f' := (17, [some (.int p0)], [.int 1])) (h' := hh) rfl ?_
  cases h
  exact mv_E.done rfl mi_zret1
def b_75_36 (l0 : Int32) : Int32 := (if l0 < 65 then (-1) else (if 70 < l0 then (-1) else ((l0 - 65) + 10)))
theorem tb_75_36 (L : Nat) (xs : Nat → Int32) (hh : mv_H) (l0 : Int32) (ret : Int32) (h : b_75_36 l0 = ret) : mv_E (mp L xs) 75 (36, [some (.int l0)], []) hh ((.inl (some (.int ret)), hh)) := by
  unfold b_75_36 at h
  refine mv_E.rT (t := mt_75) rfl 2 (f' := (39, [some (.int l0)], [.int 65, .int l0])) (h' := hh) rfl ?_
  by_cases hc1107 : l0 < 65
  · replace h := (if_pos hc1107).symm.trans h
    refine mv_E.go rfl (mi_icmp_pos hc1107) ?_
    refine mv_E.rT (t := mt_75) rfl 1 (f' := (59, [some (.int l0)], [.int (-1)])) (h' := hh) rfl ?_
    cases h
    exact mv_E.done rfl rfl
  replace h := (if_neg hc1107).symm.trans h
  refine mv_E.go rfl (mi_icmp_neg hc1107) ?_
  refine mv_E.rT (t := mt_75) rfl 2 (f' := (45, [some (.int l0)], [.int 70, .int l0])) (h' := hh) rfl ?_
  by_cases hc1106 : 70 < l0
  · replace h := (if_pos hc1106).symm.trans h
    refine mv_E.go rfl (mi_icmp_pos hc1106) ?_
    refine mv_E.rT (t := mt_75) rfl 1 (f' := (59, [some (.int l0)], [.int (-1)])) (h' := hh) rfl ?_
    cases h
    exact mv_E.done rfl rfl
  replace h := (if_neg hc1106).symm.trans h
  refine mv_E.go rfl (mi_icmp_neg hc1106) ?_
  refine mv_E.rT (t := mt_75) rfl 6 (f' := (59, [some (.int l0)], [.int ((l0 - 65) + 10)])) (h' := hh) rfl ?_
  cases h
  exact mv_E.done rfl rfl
def f_75 (p0 : Int32) : Int32 := (if (f_74 p0) = 0 then (if p0 < 97 then b_75_36 p0 else (if 102 < p0 then b_75_36 p0 else ((p0 - 97) + 10))) else (p0 - 48))
theorem t_75 (L : Nat) (xs : Nat → Int32) {hh : mv_H} {p0 : Int32} {ret : Int32} (h : f_75 p0 = ret) : mv_E (mp L xs) 75 (0, [some (.int p0)], []) hh ((.inl (some (.int ret)), hh)) := by
  unfold f_75 at h
  refine mv_E.rT (t := mt_75) rfl 1 (f' := (1, [some (.int p0)], [.int p0])) (h' := hh) rfl ?_
  refine mv_E.call (z := 74) (vs := [.int p0]) (f' := (4, [some (.int p0)], [])) (h' := hh) rfl rfl rfl (t_74 L xs rfl) (mv_okl rfl) ?_
  show mv_E (mp L xs) 75 (4, [some (.int p0)], [.int (f_74 p0)]) hh _
  by_cases hc1110 : (f_74 p0) = 0
  · replace h := (if_pos hc1110).symm.trans h
    refine mv_E.go rfl (mi_if_pos hc1110) ?_
    refine mv_E.rT (t := mt_75) rfl 2 (f' := (17, [some (.int p0)], [.int 97, .int p0])) (h' := hh) rfl ?_
    by_cases hc1109 : p0 < 97
    · replace h := (if_pos hc1109).symm.trans h
      refine mv_E.go rfl (mi_icmp_pos hc1109) ?_
      show mv_E (mp L xs) 75 (36, [some (.int p0)], []) hh _
      exact tb_75_36 L xs hh p0 _ h
    replace h := (if_neg hc1109).symm.trans h
    refine mv_E.go rfl (mi_icmp_neg hc1109) ?_
    refine mv_E.rT (t := mt_75) rfl 2 (f' := (23, [some (.int p0)], [.int 102, .int p0])) (h' := hh) rfl ?_
    by_cases hc1108 : 102 < p0
    · replace h := (if_pos hc1108).symm.trans h
      refine mv_E.go rfl (mi_icmp_pos hc1108) ?_
      show mv_E (mp L xs) 75 (36, [some (.int p0)], []) hh _
      exact tb_75_36 L xs hh p0 _ h
    replace h := (if_neg hc1108).symm.trans h
    refine mv_E.go rfl (mi_icmp_neg hc1108) ?_
    refine mv_E.rT (t := mt_75) rfl 6 (f' := (59, [some (.int p0)], [.int ((p0 - 97) + 10)])) (h' := hh) rfl ?_
    cases h
    exact mv_E.done rfl rfl
  replace h := (if_neg hc1110).symm.trans h
  refine mv_E.go rfl (mi_if_neg hc1110) ?_
  refine mv_E.rT (t := mt_75) rfl 4 (f' := (59, [some (.int p0)], [.int (p0 - 48)])) (h' := hh) rfl ?_
  cases h
  exact mv_E.done rfl rfl
def b_76_54 (k_5 : CS → Int32 → Int32 → Int32 → Int32 → Option (Int32 × CS)) (M : CS) (l1 : Int32) (l2 : Int32) (l3 : Int32) (l4 : Int32) : Option (Int32 × CS) := (f_66 M l4).bind fun r1111 => k_5 M l1 l2 ((16 * l3) + (f_75 r1111)) (l4 + 1)
theorem tb_76_54 (L : Nat) (xs : Nat → Int32) (C : CS) (o : Nat → Int64) (c s : Nat) (M : CS) (k_5 : CS → Int32 → Int32 → Int32 → Int32 → Option (Int32 × CS)) (hk_5 : ∀ (M : CS) (l1 : Int32) (l2 : Int32) (l3 : Int32) (l4 : Int32) (ret : Int32 × CS), k_5 M l1 l2 l3 l4 = some ret → mv_E (mp L xs) 76 (5, [some (.ref 18), some (.int l1), some (.int l2), some (.int l3), some (.int l4)], []) (HPf C M o, c, s) ((.inl (some (.int ret.1)), (HPf C ret.2 o, c, s)))) (l1 : Int32) (l2 : Int32) (l3 : Int32) (l4 : Int32) (ret : Int32 × CS) (h : b_76_54 k_5 M l1 l2 l3 l4 = some ret) : mv_E (mp L xs) 76 (54, [some (.ref 18), some (.int l1), some (.int l2), some (.int l3), some (.int l4)], []) (HPf C M o, c, s) ((.inl (some (.int ret.1)), (HPf C ret.2 o, c, s))) := by
  unfold b_76_54 at h
  refine mv_E.rT (t := mt_76) rfl 5 (f' := (61, [some (.ref 18), some (.int l1), some (.int l2), some (.int l3), some (.int l4)], [.int l4, .ref 18, .int (16 * l3)])) (h' := (HPf C M o, c, s)) rfl ?_
  obtain ⟨r1113, hr1114, h⟩ := Option.bind_eq_some_iff.mp h
  refine mv_E.call (z := 66) (vs := [.ref 18, .int l4]) (f' := (64, [some (.ref 18), some (.int l1), some (.int l2), some (.int l3), some (.int l4)], [.int (16 * l3)])) (h' := (HPf C M o, c, s)) rfl rfl rfl (t_66 L xs hr1114) (mv_okl rfl) ?_
  show mv_E (mp L xs) 76 (64, [some (.ref 18), some (.int l1), some (.int l2), some (.int l3), some (.int l4)], [.int r1113, .int (16 * l3)]) (HPf C M o, c, s) _
  refine mv_E.call (z := 75) (vs := [.int r1113]) (f' := (67, [some (.ref 18), some (.int l1), some (.int l2), some (.int l3), some (.int l4)], [.int (16 * l3)])) (h' := (HPf C M o, c, s)) rfl rfl rfl (t_75 L xs rfl) (mv_okl rfl) ?_
  refine mv_E.rT (t := mt_76) rfl 4 (f' := (5, [some (.ref 18), some (.int l1), some (.int l2), some (.int ((16 * l3) + (f_75 r1113))), some (.int (l4 + 1))], [])) (h' := (HPf C M o, c, s)) rfl ?_
  exact hk_5 M l1 l2 ((16 * l3) + (f_75 r1113)) (l4 + 1) _ h
def b_76_51 (k_5 : CS → Int32 → Int32 → Int32 → Int32 → Option (Int32 × CS)) (M : CS) (l1 : Int32) (l2 : Int32) (l3 : Int32) (l4 : Int32) (s0 : Int32) : Option (Int32 × CS) := (f_69 M s0).bind fun r1115 => b_76_54 k_5 r1115 l1 l2 l3 l4
theorem tb_76_51 (L : Nat) (xs : Nat → Int32) (C : CS) (o : Nat → Int64) (c s : Nat) (M : CS) (k_5 : CS → Int32 → Int32 → Int32 → Int32 → Option (Int32 × CS)) (hk_5 : ∀ (M : CS) (l1 : Int32) (l2 : Int32) (l3 : Int32) (l4 : Int32) (ret : Int32 × CS), k_5 M l1 l2 l3 l4 = some ret → mv_E (mp L xs) 76 (5, [some (.ref 18), some (.int l1), some (.int l2), some (.int l3), some (.int l4)], []) (HPf C M o, c, s) ((.inl (some (.int ret.1)), (HPf C ret.2 o, c, s)))) (l1 : Int32) (l2 : Int32) (l3 : Int32) (l4 : Int32) (s0 : Int32) (ret : Int32 × CS) (h : b_76_51 k_5 M l1 l2 l3 l4 s0 = some ret) : mv_E (mp L xs) 76 (51, [some (.ref 18), some (.int l1), some (.int l2), some (.int l3), some (.int l4)], [.int s0, .ref 18]) (HPf C M o, c, s) ((.inl (some (.int ret.1)), (HPf C ret.2 o, c, s))) := by
  unfold b_76_51 at h
  show mv_E (mp L xs) 76 (51, [some (.ref 18), some (.int l1), some (.int l2), some (.int l3), some (.int l4)], [.int s0, .ref 18]) (HPf C M o, c, s) _
  obtain ⟨r1117, hr1118, h⟩ := Option.bind_eq_some_iff.mp h
  refine mv_E.call (z := 69) (vs := [.ref 18, .int s0]) (f' := (54, [some (.ref 18), some (.int l1), some (.int l2), some (.int l3), some (.int l4)], [])) (h' := (HPf C M o, c, s)) rfl rfl rfl (t_69 L xs hr1118) (mv_okl rfl) ?_
  show mv_E (mp L xs) 76 (54, [some (.ref 18), some (.int l1), some (.int l2), some (.int l3), some (.int l4)], []) (HPf C r1117 o, c, s) _
  exact tb_76_54 L xs C o c s r1117 k_5 hk_5 l1 l2 l3 l4 _ h
def b_76_5 : Nat → CS → Int32 → Int32 → Int32 → Int32 → Option (Int32 × CS)
  | 0, _, _, _, _, _ => none
  | n + 1, M, l1, l2, l3, l4 => (if (l1 + l2) ≤ l4 then some (l3, M) else (if 0 ≤ (M.1 4) then some (l3, M) else (f_66 M l4).bind fun r1102 => (if 0 ≤ (f_75 r1102) then b_76_54 (b_76_5 n) M l1 l2 l3 l4 else (if (M.1 1) ≤ l4 then b_76_51 (b_76_5 n) M l1 l2 l3 l4 (M.1 1) else b_76_51 (b_76_5 n) M l1 l2 l3 l4 l4))))
theorem tb_76_5 (L : Nat) (xs : Nat → Int32) (C : CS) (o : Nat → Int64) (c s : Nat) : ∀ (n : Nat) (M : CS) (l1 : Int32) (l2 : Int32) (l3 : Int32) (l4 : Int32) (ret : Int32 × CS), b_76_5 n M l1 l2 l3 l4 = some ret → mv_E (mp L xs) 76 (5, [some (.ref 18), some (.int l1), some (.int l2), some (.int l3), some (.int l4)], []) (HPf C M o, c, s) ((.inl (some (.int ret.1)), (HPf C ret.2 o, c, s))) := by
  intro n
  induction n with
  | zero => intro M l1 l2 l3 l4 ret h; rw [b_76_5] at h; cases h
  | succ n ih =>
    intro M l1 l2 l3 l4 ret h
    rw [b_76_5] at h
    refine mv_E.rT (t := mt_76) rfl 4 (f' := (10, [some (.ref 18), some (.int l1), some (.int l2), some (.int l3), some (.int l4)], [.int (l1 + l2), .int l4])) (h' := (HPf C M o, c, s)) rfl ?_
    by_cases hc1128 : (l1 + l2) ≤ l4
    · replace h := (if_pos hc1128).symm.trans h
      refine mv_E.go rfl (mi_icmp_pos hc1128) ?_
      refine mv_E.rT (t := mt_76) rfl 1 (f' := (76, [some (.ref 18), some (.int l1), some (.int l2), some (.int l3), some (.int l4)], [.int l3])) (h' := (HPf C M o, c, s)) rfl ?_
      cases h
      exact mv_E.done rfl rfl
    replace h := (if_neg hc1128).symm.trans h
    refine mv_E.go rfl (mi_icmp_neg hc1128) ?_
    refine mv_E.rT (t := mt_76) rfl 2 (f' := (17, [some (.ref 18), some (.int l1), some (.int l2), some (.int l3), some (.int l4)], [.int (M.1 4)])) (h' := (HPf C M o, c, s)) rfl ?_
    by_cases hc1127 : 0 ≤ (M.1 4)
    · replace h := (if_pos hc1127).symm.trans h
      refine mv_E.go rfl (mi_if_pos hc1127) ?_
      refine mv_E.rT (t := mt_76) rfl 1 (f' := (76, [some (.ref 18), some (.int l1), some (.int l2), some (.int l3), some (.int l4)], [.int l3])) (h' := (HPf C M o, c, s)) rfl ?_
      cases h
      exact mv_E.done rfl rfl
    replace h := (if_neg hc1127).symm.trans h
    refine mv_E.go rfl (mi_if_neg hc1127) ?_
    refine mv_E.rT (t := mt_76) rfl 2 (f' := (23, [some (.ref 18), some (.int l1), some (.int l2), some (.int l3), some (.int l4)], [.int l4, .ref 18])) (h' := (HPf C M o, c, s)) rfl ?_
    obtain ⟨r1123, hr1124, h⟩ := Option.bind_eq_some_iff.mp h
    refine mv_E.call (z := 66) (vs := [.ref 18, .int l4]) (f' := (26, [some (.ref 18), some (.int l1), some (.int l2), some (.int l3), some (.int l4)], [])) (h' := (HPf C M o, c, s)) rfl rfl rfl (t_66 L xs hr1124) (mv_okl rfl) ?_
    show mv_E (mp L xs) 76 (26, [some (.ref 18), some (.int l1), some (.int l2), some (.int l3), some (.int l4)], [.int r1123]) (HPf C M o, c, s) _
    refine mv_E.call (z := 75) (vs := [.int r1123]) (f' := (29, [some (.ref 18), some (.int l1), some (.int l2), some (.int l3), some (.int l4)], [])) (h' := (HPf C M o, c, s)) rfl rfl rfl (t_75 L xs rfl) (mv_okl rfl) ?_
    show mv_E (mp L xs) 76 (29, [some (.ref 18), some (.int l1), some (.int l2), some (.int l3), some (.int l4)], [.int (f_75 r1123)]) (HPf C M o, c, s) _
    by_cases hc1126 : 0 ≤ (f_75 r1123)
    · replace h := (if_pos hc1126).symm.trans h
      refine mv_E.go rfl (mi_if_pos hc1126) ?_
      show mv_E (mp L xs) 76 (54, [some (.ref 18), some (.int l1), some (.int l2), some (.int l3), some (.int l4)], []) (HPf C M o, c, s) _
      exact tb_76_54 L xs C o c s M (b_76_5 n) ih l1 l2 l3 l4 _ h
    replace h := (if_neg hc1126).symm.trans h
    refine mv_E.go rfl (mi_if_neg hc1126) ?_
    refine mv_E.rT (t := mt_76) rfl 4 (f' := (39, [some (.ref 18), some (.int l1), some (.int l2), some (.int l3), some (.int l4)], [.int (M.1 1), .int l4, .ref 18])) (h' := (HPf C M o, c, s)) rfl ?_
    by_cases hc1125 : (M.1 1) ≤ l4
    · replace h := (if_pos hc1125).symm.trans h
      refine mv_E.go rfl (mi_icmp_pos hc1125) ?_
      refine mv_E.rT (t := mt_76) rfl 2 (f' := (51, [some (.ref 18), some (.int l1), some (.int l2), some (.int l3), some (.int l4)], [.int (M.1 1), .ref 18])) (h' := (HPf C M o, c, s)) rfl ?_
      exact tb_76_51 L xs C o c s M (b_76_5 n) ih l1 l2 l3 l4 (M.1 1) _ h
    replace h := (if_neg hc1125).symm.trans h
    refine mv_E.go rfl (mi_icmp_neg hc1125) ?_
    refine mv_E.rT (t := mt_76) rfl 2 (f' := (51, [some (.ref 18), some (.int l1), some (.int l2), some (.int l3), some (.int l4)], [.int l4, .ref 18])) (h' := (HPf C M o, c, s)) rfl ?_
    exact tb_76_51 L xs C o c s M (b_76_5 n) ih l1 l2 l3 l4 l4 _ h
def f_76 (M : CS) (p0 : Int32) (p1 : Int32) : Option (Int32 × CS) := b_76_5 fu M p0 p1 0 p0
theorem t_76 (L : Nat) (xs : Nat → Int32) {C M : CS} {o : Nat → Int64} {c s : Nat} {p0 : Int32} {p1 : Int32} {ret : Int32 × CS} (h : f_76 M p0 p1 = some ret) : mv_E (mp L xs) 76 (0, [some (.ref 18), some (.int p0), some (.int p1), none, none], []) (HPf C M o, c, s) ((.inl (some (.int ret.1)), (HPf C ret.2 o, c, s))) := by
  unfold f_76 at h
  refine mv_E.rT (t := mt_76) rfl 4 (f' := (5, [some (.ref 18), some (.int p0), some (.int p1), some (.int 0), some (.int p0)], [])) (h' := (HPf C M o, c, s)) rfl ?_
  exact tb_76_5 L xs C o c s fu M p0 p1 0 p0 _ h
def b_81_174 (M : CS) : Option (CS) := (f_80 M).bind fun r1084 => some (ru (M.1) 9 (r1084), M.2)
theorem tb_81_174 (L : Nat) (xs : Nat → Int32) (C : CS) (o : Nat → Int64) (c s : Nat) (M : CS) (d1 : Option Int32) (d2 : Option Int32) (d3 : Option Int32) (ret : CS) (h : b_81_174 M = some ret) : mv_E (mp L xs) 81 (174, [some (.ref 18), d1.map .int, d2.map .int, d3.map .int], []) (HPf C M o, c, s) ((.inl none, (HPf C ret o, c, s))) := by
  unfold b_81_174 at h
  refine mv_E.rT (t := mt_81) rfl 2 (f' := (176, [some (.ref 18), d1.map .int, d2.map .int, d3.map .int], [.ref 18, .ref 18])) (h' := (HPf C M o, c, s)) rfl ?_
  obtain ⟨r1086, hr1087, h⟩ := Option.bind_eq_some_iff.mp h
  refine mv_E.call (z := 80) (vs := [.ref 18]) (f' := (179, [some (.ref 18), d1.map .int, d2.map .int, d3.map .int], [.ref 18])) (h' := (HPf C M o, c, s)) rfl rfl rfl (t_80 L xs hr1087) (mv_okl rfl) ?_
  refine mv_E.rT (t := mt_81) rfl 1 (f' := (182, [some (.ref 18), d1.map .int, d2.map .int, d3.map .int], [])) (h' := (HPf C (ru (M.1) 9 (r1086), M.2) o, c, s)) rfl ?_
  cases h
  exact mv_E.done rfl rfl
def b_81_171 (k_7 : CS → Int32 → Option (CS)) (M : CS) (l1 : Int32) : Option (CS) := k_7 M l1
theorem tb_81_171 (L : Nat) (xs : Nat → Int32) (C : CS) (o : Nat → Int64) (c s : Nat) (M : CS) (k_7 : CS → Int32 → Option (CS)) (hk_7 : ∀ (M : CS) (l1 : Int32) (d2 : Option Int32) (d3 : Option Int32) (ret : CS), k_7 M l1 = some ret → mv_E (mp L xs) 81 (7, [some (.ref 18), some (.int l1), d2.map .int, d3.map .int], []) (HPf C M o, c, s) ((.inl none, (HPf C ret o, c, s)))) (l1 : Int32) (d2 : Option Int32) (d3 : Option Int32) (ret : CS) (h : b_81_171 k_7 M l1 = some ret) : mv_E (mp L xs) 81 (171, [some (.ref 18), some (.int l1), d2.map .int, d3.map .int], []) (HPf C M o, c, s) ((.inl none, (HPf C ret o, c, s))) := by
  unfold b_81_171 at h
  refine mv_E.rT (t := mt_81) rfl 1 (f' := (7, [some (.ref 18), some (.int l1), d2.map .int, d3.map .int], [])) (h' := (HPf C M o, c, s)) rfl ?_
  exact hk_7 M l1 d2 d3 _ h
def b_81_151 (k_7 : CS → Int32 → Option (CS)) (M : CS) (l1 : Int32) (l2 : Int32) : Option (CS) := (f_77 M l2).bind fun r1091 => b_81_171 k_7 (ru (r1091.1) 5 (((r1091.1 5) + 1)), r1091.2) l1
theorem tb_81_151 (L : Nat) (xs : Nat → Int32) (C : CS) (o : Nat → Int64) (c s : Nat) (M : CS) (k_7 : CS → Int32 → Option (CS)) (hk_7 : ∀ (M : CS) (l1 : Int32) (d2 : Option Int32) (d3 : Option Int32) (ret : CS), k_7 M l1 = some ret → mv_E (mp L xs) 81 (7, [some (.ref 18), some (.int l1), d2.map .int, d3.map .int], []) (HPf C M o, c, s) ((.inl none, (HPf C ret o, c, s)))) (l1 : Int32) (l2 : Int32) (d3 : Option Int32) (ret : CS) (h : b_81_151 k_7 M l1 l2 = some ret) : mv_E (mp L xs) 81 (151, [some (.ref 18), some (.int l1), some (.int l2), d3.map .int], []) (HPf C M o, c, s) ((.inl none, (HPf C ret o, c, s))) := by
  unfold b_81_151 at h
  refine mv_E.rT (t := mt_81) rfl 2 (f' := (153, [some (.ref 18), some (.int l1), some (.int l2), d3.map .int], [.int l2, .ref 18])) (h' := (HPf C M o, c, s)) rfl ?_
  obtain ⟨r1093, hr1094, h⟩ := Option.bind_eq_some_iff.mp h
  refine mv_E.call (z := 77) (vs := [.ref 18, .int l2]) (f' := (156, [some (.ref 18), some (.int l1), some (.int l2), d3.map .int], [])) (h' := (HPf C M o, c, s)) rfl rfl rfl (t_77 L xs hr1094) (mv_okl rfl) ?_
  refine mv_E.rT (t := mt_81) rfl 7 (f' := (171, [some (.ref 18), some (.int l1), some (.int l2), d3.map .int], [])) (h' := (HPf C (ru (r1093.1) 5 (((r1093.1 5) + 1)), r1093.2) o, c, s)) rfl ?_
  exact tb_81_171 L xs C o c s (ru (r1093.1) 5 (((r1093.1 5) + 1)), r1093.2) k_7 hk_7 l1 (some l2) d3 _ h
def b_81_169 (k_7 : CS → Int32 → Option (CS)) (M : CS) : Option (CS) := b_81_171 k_7 M 0
theorem tb_81_169 (L : Nat) (xs : Nat → Int32) (C : CS) (o : Nat → Int64) (c s : Nat) (M : CS) (k_7 : CS → Int32 → Option (CS)) (hk_7 : ∀ (M : CS) (l1 : Int32) (d2 : Option Int32) (d3 : Option Int32) (ret : CS), k_7 M l1 = some ret → mv_E (mp L xs) 81 (7, [some (.ref 18), some (.int l1), d2.map .int, d3.map .int], []) (HPf C M o, c, s) ((.inl none, (HPf C ret o, c, s)))) (d1 : Option Int32) (d2 : Option Int32) (d3 : Option Int32) (ret : CS) (h : b_81_169 k_7 M = some ret) : mv_E (mp L xs) 81 (169, [some (.ref 18), d1.map .int, d2.map .int, d3.map .int], []) (HPf C M o, c, s) ((.inl none, (HPf C ret o, c, s))) := by
  unfold b_81_169 at h
  refine mv_E.rT (t := mt_81) rfl 2 (f' := (171, [some (.ref 18), some (.int 0), d2.map .int, d3.map .int], [])) (h' := (HPf C M o, c, s)) rfl ?_
  exact tb_81_171 L xs C o c s M k_7 hk_7 0 d2 d3 _ h
def b_81_106 (k_7 : CS → Int32 → Option (CS)) (M : CS) (l1 : Int32) (l3 : Int32) : Option (CS) := (f_77 M l3).bind fun r1131 => b_81_171 k_7 (ru (ru (r1131.1) 10 (1)) 5 (((r1131.1 5) + 6)), r1131.2) l1
theorem tb_81_106 (L : Nat) (xs : Nat → Int32) (C : CS) (o : Nat → Int64) (c s : Nat) (M : CS) (k_7 : CS → Int32 → Option (CS)) (hk_7 : ∀ (M : CS) (l1 : Int32) (d2 : Option Int32) (d3 : Option Int32) (ret : CS), k_7 M l1 = some ret → mv_E (mp L xs) 81 (7, [some (.ref 18), some (.int l1), d2.map .int, d3.map .int], []) (HPf C M o, c, s) ((.inl none, (HPf C ret o, c, s)))) (l1 : Int32) (l3 : Int32) (d2 : Option Int32) (ret : CS) (h : b_81_106 k_7 M l1 l3 = some ret) : mv_E (mp L xs) 81 (106, [some (.ref 18), some (.int l1), d2.map .int, some (.int l3)], []) (HPf C M o, c, s) ((.inl none, (HPf C ret o, c, s))) := by
  unfold b_81_106 at h
  refine mv_E.rT (t := mt_81) rfl 2 (f' := (108, [some (.ref 18), some (.int l1), d2.map .int, some (.int l3)], [.int l3, .ref 18])) (h' := (HPf C M o, c, s)) rfl ?_
  obtain ⟨r1133, hr1134, h⟩ := Option.bind_eq_some_iff.mp h
  refine mv_E.call (z := 77) (vs := [.ref 18, .int l3]) (f' := (111, [some (.ref 18), some (.int l1), d2.map .int, some (.int l3)], [])) (h' := (HPf C M o, c, s)) rfl rfl rfl (t_77 L xs hr1134) (mv_okl rfl) ?_
  refine mv_E.rT (t := mt_81) rfl 10 (f' := (171, [some (.ref 18), some (.int l1), d2.map .int, some (.int l3)], [])) (h' := (HPf C (ru (ru (r1133.1) 10 (1)) 5 (((r1133.1 5) + 6)), r1133.2) o, c, s)) rfl ?_
  exact tb_81_171 L xs C o c s (ru (ru (r1133.1) 10 (1)) 5 (((r1133.1 5) + 6)), r1133.2) k_7 hk_7 l1 d2 (some l3) _ h
def b_81_98 (k_7 : CS → Int32 → Option (CS)) (M : CS) (l1 : Int32) (l3 : Int32) : Option (CS) := (f_69 M (M.1 5)).bind fun r1135 => b_81_106 k_7 r1135 l1 l3
theorem tb_81_98 (L : Nat) (xs : Nat → Int32) (C : CS) (o : Nat → Int64) (c s : Nat) (M : CS) (k_7 : CS → Int32 → Option (CS)) (hk_7 : ∀ (M : CS) (l1 : Int32) (d2 : Option Int32) (d3 : Option Int32) (ret : CS), k_7 M l1 = some ret → mv_E (mp L xs) 81 (7, [some (.ref 18), some (.int l1), d2.map .int, d3.map .int], []) (HPf C M o, c, s) ((.inl none, (HPf C ret o, c, s)))) (l1 : Int32) (l3 : Int32) (d2 : Option Int32) (ret : CS) (h : b_81_98 k_7 M l1 l3 = some ret) : mv_E (mp L xs) 81 (98, [some (.ref 18), some (.int l1), d2.map .int, some (.int l3)], []) (HPf C M o, c, s) ((.inl none, (HPf C ret o, c, s))) := by
  unfold b_81_98 at h
  refine mv_E.rT (t := mt_81) rfl 3 (f' := (103, [some (.ref 18), some (.int l1), d2.map .int, some (.int l3)], [.int (M.1 5), .ref 18])) (h' := (HPf C M o, c, s)) rfl ?_
  obtain ⟨r1137, hr1138, h⟩ := Option.bind_eq_some_iff.mp h
  refine mv_E.call (z := 69) (vs := [.ref 18, .int (M.1 5)]) (f' := (106, [some (.ref 18), some (.int l1), d2.map .int, some (.int l3)], [])) (h' := (HPf C M o, c, s)) rfl rfl rfl (t_69 L xs hr1138) (mv_okl rfl) ?_
  show mv_E (mp L xs) 81 (106, [some (.ref 18), some (.int l1), d2.map .int, some (.int l3)], []) (HPf C r1137 o, c, s) _
  exact tb_81_106 L xs C o c s r1137 k_7 hk_7 l1 l3 d2 _ h
def b_81_58 (k_7 : CS → Int32 → Option (CS)) (M : CS) (l1 : Int32) : Option (CS) := (f_76 M ((M.1 5) + 2) 4).bind fun r1129 => (if 0 ≤ (r1129.2.1 4) then b_81_106 k_7 r1129.2 l1 r1129.1 else (if ¬ (f_73 r1129.1) = 0 then b_81_106 k_7 r1129.2 l1 r1129.1 else (if (r1129.2.1 12) = 0 then b_81_98 k_7 r1129.2 l1 r1129.1 else (if ¬ (f_74 r1129.1) = 0 then b_81_106 k_7 r1129.2 l1 r1129.1 else b_81_98 k_7 r1129.2 l1 r1129.1))))
theorem tb_81_58 (L : Nat) (xs : Nat → Int32) (C : CS) (o : Nat → Int64) (c s : Nat) (M : CS) (k_7 : CS → Int32 → Option (CS)) (hk_7 : ∀ (M : CS) (l1 : Int32) (d2 : Option Int32) (d3 : Option Int32) (ret : CS), k_7 M l1 = some ret → mv_E (mp L xs) 81 (7, [some (.ref 18), some (.int l1), d2.map .int, d3.map .int], []) (HPf C M o, c, s) ((.inl none, (HPf C ret o, c, s)))) (l1 : Int32) (d2 : Option Int32) (d3 : Option Int32) (ret : CS) (h : b_81_58 k_7 M l1 = some ret) : mv_E (mp L xs) 81 (58, [some (.ref 18), some (.int l1), d2.map .int, d3.map .int], []) (HPf C M o, c, s) ((.inl none, (HPf C ret o, c, s))) := by
  unfold b_81_58 at h
  rcases d2 with _ | d2
  · refine mv_E.rT (t := mt_81) rfl 6 (f' := (66, [some (.ref 18), some (.int l1), none, d3.map .int], [.int 4, .int ((M.1 5) + 2), .ref 18])) (h' := (HPf C M o, c, s)) rfl ?_
    obtain ⟨r1143, hr1144, h⟩ := Option.bind_eq_some_iff.mp h
    refine mv_E.call (z := 76) (vs := [.ref 18, .int ((M.1 5) + 2), .int 4]) (f' := (69, [some (.ref 18), some (.int l1), none, d3.map .int], [])) (h' := (HPf C M o, c, s)) rfl rfl rfl (t_76 L xs hr1144) (mv_okl rfl) ?_
    refine mv_E.rT (t := mt_81) rfl 3 (f' := (74, [some (.ref 18), some (.int l1), none, some (.int r1143.1)], [.int (r1143.2.1 4)])) (h' := (HPf C r1143.2 o, c, s)) rfl ?_
    by_cases hc1148 : 0 ≤ (r1143.2.1 4)
    · replace h := (if_pos hc1148).symm.trans h
      refine mv_E.go rfl (mi_if_pos hc1148) ?_
      show mv_E (mp L xs) 81 (106, [some (.ref 18), some (.int l1), none, some (.int r1143.1)], []) (HPf C r1143.2 o, c, s) _
      exact tb_81_106 L xs C o c s r1143.2 k_7 hk_7 l1 r1143.1 none _ h
    replace h := (if_neg hc1148).symm.trans h
    refine mv_E.go rfl (mi_if_neg hc1148) ?_
    refine mv_E.rT (t := mt_81) rfl 1 (f' := (78, [some (.ref 18), some (.int l1), none, some (.int r1143.1)], [.int r1143.1])) (h' := (HPf C r1143.2 o, c, s)) rfl ?_
    refine mv_E.call (z := 73) (vs := [.int r1143.1]) (f' := (81, [some (.ref 18), some (.int l1), none, some (.int r1143.1)], [])) (h' := (HPf C r1143.2 o, c, s)) rfl rfl rfl (t_73 L xs rfl) (mv_okl rfl) ?_
    show mv_E (mp L xs) 81 (81, [some (.ref 18), some (.int l1), none, some (.int r1143.1)], [.int (f_73 r1143.1)]) (HPf C r1143.2 o, c, s) _
    by_cases hc1147 : ¬ (f_73 r1143.1) = 0
    · replace h := (if_pos hc1147).symm.trans h
      refine mv_E.go rfl (mi_if_pos hc1147) ?_
      show mv_E (mp L xs) 81 (106, [some (.ref 18), some (.int l1), none, some (.int r1143.1)], []) (HPf C r1143.2 o, c, s) _
      exact tb_81_106 L xs C o c s r1143.2 k_7 hk_7 l1 r1143.1 none _ h
    replace h := (if_neg hc1147).symm.trans h
    refine mv_E.go rfl (mi_if_neg hc1147) ?_
    refine mv_E.rT (t := mt_81) rfl 2 (f' := (88, [some (.ref 18), some (.int l1), none, some (.int r1143.1)], [.int (r1143.2.1 12)])) (h' := (HPf C r1143.2 o, c, s)) rfl ?_
    by_cases hc1146 : (r1143.2.1 12) = 0
    · replace h := (if_pos hc1146).symm.trans h
      refine mv_E.go rfl (mi_if_pos hc1146) ?_
      show mv_E (mp L xs) 81 (98, [some (.ref 18), some (.int l1), none, some (.int r1143.1)], []) (HPf C r1143.2 o, c, s) _
      exact tb_81_98 L xs C o c s r1143.2 k_7 hk_7 l1 r1143.1 none _ h
    replace h := (if_neg hc1146).symm.trans h
    refine mv_E.go rfl (mi_if_neg hc1146) ?_
    refine mv_E.rT (t := mt_81) rfl 1 (f' := (92, [some (.ref 18), some (.int l1), none, some (.int r1143.1)], [.int r1143.1])) (h' := (HPf C r1143.2 o, c, s)) rfl ?_
    refine mv_E.call (z := 74) (vs := [.int r1143.1]) (f' := (95, [some (.ref 18), some (.int l1), none, some (.int r1143.1)], [])) (h' := (HPf C r1143.2 o, c, s)) rfl rfl rfl (t_74 L xs rfl) (mv_okl rfl) ?_
    show mv_E (mp L xs) 81 (95, [some (.ref 18), some (.int l1), none, some (.int r1143.1)], [.int (f_74 r1143.1)]) (HPf C r1143.2 o, c, s) _
    by_cases hc1145 : ¬ (f_74 r1143.1) = 0
    · replace h := (if_pos hc1145).symm.trans h
      refine mv_E.go rfl (mi_if_pos hc1145) ?_
      show mv_E (mp L xs) 81 (106, [some (.ref 18), some (.int l1), none, some (.int r1143.1)], []) (HPf C r1143.2 o, c, s) _
      exact tb_81_106 L xs C o c s r1143.2 k_7 hk_7 l1 r1143.1 none _ h
    replace h := (if_neg hc1145).symm.trans h
    refine mv_E.go rfl (mi_if_neg hc1145) ?_
    show mv_E (mp L xs) 81 (98, [some (.ref 18), some (.int l1), none, some (.int r1143.1)], []) (HPf C r1143.2 o, c, s) _
    exact tb_81_98 L xs C o c s r1143.2 k_7 hk_7 l1 r1143.1 none _ h
  · refine mv_E.rT (t := mt_81) rfl 6 (f' := (66, [some (.ref 18), some (.int l1), some (.int d2), d3.map .int], [.int 4, .int ((M.1 5) + 2), .ref 18])) (h' := (HPf C M o, c, s)) rfl ?_
    obtain ⟨r1149, hr1150, h⟩ := Option.bind_eq_some_iff.mp h
    refine mv_E.call (z := 76) (vs := [.ref 18, .int ((M.1 5) + 2), .int 4]) (f' := (69, [some (.ref 18), some (.int l1), some (.int d2), d3.map .int], [])) (h' := (HPf C M o, c, s)) rfl rfl rfl (t_76 L xs hr1150) (mv_okl rfl) ?_
    refine mv_E.rT (t := mt_81) rfl 3 (f' := (74, [some (.ref 18), some (.int l1), some (.int d2), some (.int r1149.1)], [.int (r1149.2.1 4)])) (h' := (HPf C r1149.2 o, c, s)) rfl ?_
    by_cases hc1154 : 0 ≤ (r1149.2.1 4)
    · replace h := (if_pos hc1154).symm.trans h
      refine mv_E.go rfl (mi_if_pos hc1154) ?_
      show mv_E (mp L xs) 81 (106, [some (.ref 18), some (.int l1), some (.int d2), some (.int r1149.1)], []) (HPf C r1149.2 o, c, s) _
      exact tb_81_106 L xs C o c s r1149.2 k_7 hk_7 l1 r1149.1 (some d2) _ h
    replace h := (if_neg hc1154).symm.trans h
    refine mv_E.go rfl (mi_if_neg hc1154) ?_
    refine mv_E.rT (t := mt_81) rfl 1 (f' := (78, [some (.ref 18), some (.int l1), some (.int d2), some (.int r1149.1)], [.int r1149.1])) (h' := (HPf C r1149.2 o, c, s)) rfl ?_
    refine mv_E.call (z := 73) (vs := [.int r1149.1]) (f' := (81, [some (.ref 18), some (.int l1), some (.int d2), some (.int r1149.1)], [])) (h' := (HPf C r1149.2 o, c, s)) rfl rfl rfl (t_73 L xs rfl) (mv_okl rfl) ?_
    show mv_E (mp L xs) 81 (81, [some (.ref 18), some (.int l1), some (.int d2), some (.int r1149.1)], [.int (f_73 r1149.1)]) (HPf C r1149.2 o, c, s) _
    by_cases hc1153 : ¬ (f_73 r1149.1) = 0
    · replace h := (if_pos hc1153).symm.trans h
      refine mv_E.go rfl (mi_if_pos hc1153) ?_
      show mv_E (mp L xs) 81 (106, [some (.ref 18), some (.int l1), some (.int d2), some (.int r1149.1)], []) (HPf C r1149.2 o, c, s) _
      exact tb_81_106 L xs C o c s r1149.2 k_7 hk_7 l1 r1149.1 (some d2) _ h
    replace h := (if_neg hc1153).symm.trans h
    refine mv_E.go rfl (mi_if_neg hc1153) ?_
    refine mv_E.rT (t := mt_81) rfl 2 (f' := (88, [some (.ref 18), some (.int l1), some (.int d2), some (.int r1149.1)], [.int (r1149.2.1 12)])) (h' := (HPf C r1149.2 o, c, s)) rfl ?_
    by_cases hc1152 : (r1149.2.1 12) = 0
    · replace h := (if_pos hc1152).symm.trans h
      refine mv_E.go rfl (mi_if_pos hc1152) ?_
      show mv_E (mp L xs) 81 (98, [some (.ref 18), some (.int l1), some (.int d2), some (.int r1149.1)], []) (HPf C r1149.2 o, c, s) _
      exact tb_81_98 L xs C o c s r1149.2 k_7 hk_7 l1 r1149.1 (some d2) _ h
    replace h := (if_neg hc1152).symm.trans h
    refine mv_E.go rfl (mi_if_neg hc1152) ?_
    refine mv_E.rT (t := mt_81) rfl 1 (f' := (92, [some (.ref 18), some (.int l1), some (.int d2), some (.int r1149.1)], [.int r1149.1])) (h' := (HPf C r1149.2 o, c, s)) rfl ?_
    refine mv_E.call (z := 74) (vs := [.int r1149.1]) (f' := (95, [some (.ref 18), some (.int l1), some (.int d2), some (.int r1149.1)], [])) (h' := (HPf C r1149.2 o, c, s)) rfl rfl rfl (t_74 L xs rfl) (mv_okl rfl) ?_
    show mv_E (mp L xs) 81 (95, [some (.ref 18), some (.int l1), some (.int d2), some (.int r1149.1)], [.int (f_74 r1149.1)]) (HPf C r1149.2 o, c, s) _
    by_cases hc1151 : ¬ (f_74 r1149.1) = 0
    · replace h := (if_pos hc1151).symm.trans h
      refine mv_E.go rfl (mi_if_pos hc1151) ?_
      show mv_E (mp L xs) 81 (106, [some (.ref 18), some (.int l1), some (.int d2), some (.int r1149.1)], []) (HPf C r1149.2 o, c, s) _
      exact tb_81_106 L xs C o c s r1149.2 k_7 hk_7 l1 r1149.1 (some d2) _ h
    replace h := (if_neg hc1151).symm.trans h
    refine mv_E.go rfl (mi_if_neg hc1151) ?_
    show mv_E (mp L xs) 81 (98, [some (.ref 18), some (.int l1), some (.int d2), some (.int r1149.1)], []) (HPf C r1149.2 o, c, s) _
    exact tb_81_98 L xs C o c s r1149.2 k_7 hk_7 l1 r1149.1 (some d2) _ h
def b_81_7 : Nat → CS → Int32 → Option (CS)
  | 0, _, _ => none
  | n + 1, M, l1 => (if l1 = 0 then b_81_174 M else (if 0 ≤ (M.1 4) then b_81_174 M else (f_66 M (M.1 5)).bind fun r1088 => (if ¬ r1088 = 92 then (if ¬ (f_73 r1088) = 0 then b_81_151 (b_81_7 n) M l1 r1088 else (if (M.1 12) ≤ 0 then b_81_169 (b_81_7 n) M else (if (f_74 r1088) = 0 then b_81_169 (b_81_7 n) M else b_81_151 (b_81_7 n) M l1 r1088))) else (f_66 M ((M.1 5) + 1)).bind fun r1100 => (if r1100 = 117 then b_81_58 (b_81_7 n) M l1 else (f_69 M ((M.1 5) + 1)).bind fun r1155 => b_81_58 (b_81_7 n) r1155 l1))))
theorem tb_81_7 (L : Nat) (xs : Nat → Int32) (C : CS) (o : Nat → Int64) (c s : Nat) : ∀ (n : Nat) (M : CS) (l1 : Int32) (d2 : Option Int32) (d3 : Option Int32) (ret : CS), b_81_7 n M l1 = some ret → mv_E (mp L xs) 81 (7, [some (.ref 18), some (.int l1), d2.map .int, d3.map .int], []) (HPf C M o, c, s) ((.inl none, (HPf C ret o, c, s))) := by
  intro n
  induction n with
  | zero => intro M l1 d2 d3 ret h; rw [b_81_7] at h; cases h
  | succ n ih =>
    intro M l1 d2 d3 ret h
    rw [b_81_7] at h
    refine mv_E.rT (t := mt_81) rfl 1 (f' := (8, [some (.ref 18), some (.int l1), d2.map .int, d3.map .int], [.int l1])) (h' := (HPf C M o, c, s)) rfl ?_
    by_cases hc1173 : l1 = 0
    · replace h := (if_pos hc1173).symm.trans h
      refine mv_E.go rfl (mi_if_pos hc1173) ?_
      show mv_E (mp L xs) 81 (174, [some (.ref 18), some (.int l1), d2.map .int, d3.map .int], []) (HPf C M o, c, s) _
      exact tb_81_174 L xs C o c s M (some l1) d2 d3 _ h
    replace h := (if_neg hc1173).symm.trans h
    refine mv_E.go rfl (mi_if_neg hc1173) ?_
    refine mv_E.rT (t := mt_81) rfl 2 (f' := (15, [some (.ref 18), some (.int l1), d2.map .int, d3.map .int], [.int (M.1 4)])) (h' := (HPf C M o, c, s)) rfl ?_
    by_cases hc1172 : 0 ≤ (M.1 4)
    · replace h := (if_pos hc1172).symm.trans h
      refine mv_E.go rfl (mi_if_pos hc1172) ?_
      show mv_E (mp L xs) 81 (174, [some (.ref 18), some (.int l1), d2.map .int, d3.map .int], []) (HPf C M o, c, s) _
      exact tb_81_174 L xs C o c s M (some l1) d2 d3 _ h
    replace h := (if_neg hc1172).symm.trans h
    refine mv_E.go rfl (mi_if_neg hc1172) ?_
    refine mv_E.rT (t := mt_81) rfl 3 (f' := (23, [some (.ref 18), some (.int l1), d2.map .int, d3.map .int], [.int (M.1 5), .ref 18])) (h' := (HPf C M o, c, s)) rfl ?_
    obtain ⟨r1161, hr1162, h⟩ := Option.bind_eq_some_iff.mp h
    refine mv_E.call (z := 66) (vs := [.ref 18, .int (M.1 5)]) (f' := (26, [some (.ref 18), some (.int l1), d2.map .int, d3.map .int], [])) (h' := (HPf C M o, c, s)) rfl rfl rfl (t_66 L xs hr1162) (mv_okl rfl) ?_
    refine mv_E.rT (t := mt_81) rfl 3 (f' := (30, [some (.ref 18), some (.int l1), some (.int r1161), d3.map .int], [.int 92, .int r1161])) (h' := (HPf C M o, c, s)) rfl ?_
    by_cases hc1171 : ¬ r1161 = 92
    · replace h := (if_pos hc1171).symm.trans h
      refine mv_E.go rfl (mi_icmp_pos hc1171) ?_
      refine mv_E.rT (t := mt_81) rfl 1 (f' := (131, [some (.ref 18), some (.int l1), some (.int r1161), d3.map .int], [.int r1161])) (h' := (HPf C M o, c, s)) rfl ?_
      refine mv_E.call (z := 73) (vs := [.int r1161]) (f' := (134, [some (.ref 18), some (.int l1), some (.int r1161), d3.map .int], [])) (h' := (HPf C M o, c, s)) rfl rfl rfl (t_73 L xs rfl) (mv_okl rfl) ?_
      show mv_E (mp L xs) 81 (134, [some (.ref 18), some (.int l1), some (.int r1161), d3.map .int], [.int (f_73 r1161)]) (HPf C M o, c, s) _
      by_cases hc1165 : ¬ (f_73 r1161) = 0
      · replace h := (if_pos hc1165).symm.trans h
        refine mv_E.go rfl (mi_if_pos hc1165) ?_
        show mv_E (mp L xs) 81 (151, [some (.ref 18), some (.int l1), some (.int r1161), d3.map .int], []) (HPf C M o, c, s) _
        exact tb_81_151 L xs C o c s M (b_81_7 n) ih l1 r1161 d3 _ h
      replace h := (if_neg hc1165).symm.trans h
      refine mv_E.go rfl (mi_if_neg hc1165) ?_
      refine mv_E.rT (t := mt_81) rfl 2 (f' := (141, [some (.ref 18), some (.int l1), some (.int r1161), d3.map .int], [.int (M.1 12)])) (h' := (HPf C M o, c, s)) rfl ?_
      by_cases hc1164 : (M.1 12) ≤ 0
      · replace h := (if_pos hc1164).symm.trans h
        refine mv_E.go rfl (mi_if_pos hc1164) ?_
        show mv_E (mp L xs) 81 (169, [some (.ref 18), some (.int l1), some (.int r1161), d3.map .int], []) (HPf C M o, c, s) _
        exact tb_81_169 L xs C o c s M (b_81_7 n) ih (some l1) (some r1161) d3 _ h
      replace h := (if_neg hc1164).symm.trans h
      refine mv_E.go rfl (mi_if_neg hc1164) ?_
      refine mv_E.rT (t := mt_81) rfl 1 (f' := (145, [some (.ref 18), some (.int l1), some (.int r1161), d3.map .int], [.int r1161])) (h' := (HPf C M o, c, s)) rfl ?_
      refine mv_E.call (z := 74) (vs := [.int r1161]) (f' := (148, [some (.ref 18), some (.int l1), some (.int r1161), d3.map .int], [])) (h' := (HPf C M o, c, s)) rfl rfl rfl (t_74 L xs rfl) (mv_okl rfl) ?_
      show mv_E (mp L xs) 81 (148, [some (.ref 18), some (.int l1), some (.int r1161), d3.map .int], [.int (f_74 r1161)]) (HPf C M o, c, s) _
      by_cases hc1163 : (f_74 r1161) = 0
      · replace h := (if_pos hc1163).symm.trans h
        refine mv_E.go rfl (mi_if_pos hc1163) ?_
        show mv_E (mp L xs) 81 (169, [some (.ref 18), some (.int l1), some (.int r1161), d3.map .int], []) (HPf C M o, c, s) _
        exact tb_81_169 L xs C o c s M (b_81_7 n) ih (some l1) (some r1161) d3 _ h
      replace h := (if_neg hc1163).symm.trans h
      refine mv_E.go rfl (mi_if_neg hc1163) ?_
      show mv_E (mp L xs) 81 (151, [some (.ref 18), some (.int l1), some (.int r1161), d3.map .int], []) (HPf C M o, c, s) _
      exact tb_81_151 L xs C o c s M (b_81_7 n) ih l1 r1161 d3 _ h
    replace h := (if_neg hc1171).symm.trans h
    refine mv_E.go rfl (mi_icmp_neg hc1171) ?_
    refine mv_E.rT (t := mt_81) rfl 5 (f' := (40, [some (.ref 18), some (.int l1), some (.int r1161), d3.map .int], [.int ((M.1 5) + 1), .ref 18])) (h' := (HPf C M o, c, s)) rfl ?_
    obtain ⟨r1166, hr1167, h⟩ := Option.bind_eq_some_iff.mp h
    refine mv_E.call (z := 66) (vs := [.ref 18, .int ((M.1 5) + 1)]) (f' := (43, [some (.ref 18), some (.int l1), some (.int r1161), d3.map .int], [])) (h' := (HPf C M o, c, s)) rfl rfl rfl (t_66 L xs hr1167) (mv_okl rfl) ?_
    refine mv_E.rT (t := mt_81) rfl 1 (f' := (45, [some (.ref 18), some (.int l1), some (.int r1161), d3.map .int], [.int 117, .int r1166])) (h' := (HPf C M o, c, s)) rfl ?_
    by_cases hc1170 : r1166 = 117
    · replace h := (if_pos hc1170).symm.trans h
      refine mv_E.go rfl (mi_icmp_pos hc1170) ?_
      show mv_E (mp L xs) 81 (58, [some (.ref 18), some (.int l1), some (.int r1161), d3.map .int], []) (HPf C M o, c, s) _
      exact tb_81_58 L xs C o c s M (b_81_7 n) ih l1 (some r1161) d3 _ h
    replace h := (if_neg hc1170).symm.trans h
    refine mv_E.go rfl (mi_icmp_neg hc1170) ?_
    refine mv_E.rT (t := mt_81) rfl 5 (f' := (55, [some (.ref 18), some (.int l1), some (.int r1161), d3.map .int], [.int ((M.1 5) + 1), .ref 18])) (h' := (HPf C M o, c, s)) rfl ?_
    obtain ⟨r1168, hr1169, h⟩ := Option.bind_eq_some_iff.mp h
    refine mv_E.call (z := 69) (vs := [.ref 18, .int ((M.1 5) + 1)]) (f' := (58, [some (.ref 18), some (.int l1), some (.int r1161), d3.map .int], [])) (h' := (HPf C M o, c, s)) rfl rfl rfl (t_69 L xs hr1169) (mv_okl rfl) ?_
    show mv_E (mp L xs) 81 (58, [some (.ref 18), some (.int l1), some (.int r1161), d3.map .int], []) (HPf C r1168 o, c, s) _
    exact tb_81_58 L xs C o c s r1168 (b_81_7 n) ih l1 (some r1161) d3 _ h
def f_81 (M : CS) : Option (CS) := b_81_7 fu (ru (M.1) 6 (1), M.2) 1
theorem t_81 (L : Nat) (xs : Nat → Int32) {C M : CS} {o : Nat → Int64} {c s : Nat} {ret : CS} (h : f_81 M = some ret) : mv_E (mp L xs) 81 (0, [some (.ref 18), none, none, none], []) (HPf C M o, c, s) ((.inl none, (HPf C ret o, c, s))) := by
  unfold f_81 at h
  refine mv_E.rT (t := mt_81) rfl 5 (f' := (7, [some (.ref 18), some (.int 1), none, none], [])) (h' := (HPf C (ru (M.1) 6 (1), M.2) o, c, s)) rfl ?_
  exact tb_81_7 L xs C o c s fu (ru (M.1) 6 (1), M.2) 1 none none _ h
