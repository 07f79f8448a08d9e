def f_42_6 (C : CS) (p0 : Int32) : Option (Int32) := (if p0 < 0 then some 0 else (if (46 - 1) ≤ p0 then some 0 else if mv_in (p0 + 1) 46 = true then if mv_in p0 46 = true then some (((kst_8 (p0 + 1).toNatClampNeg) - (kst_8 p0.toNatClampNeg)) - 1) else none else none))
theorem t_42_6 (L : Nat) (xs : Nat → Int32) {C M : CS} {o : Nat → Int64} {c s : Nat} {p0 : Int32} {ret : Int32} (h : f_42_6 C p0 = some ret) : mv_E (mp L xs) 42 (0, [some (.ref 6), some (.int p0)], []) (HPf C M o, c, s) ((.inl (some (.int ret)), (HPf C M o, c, s))) := by
  unfold f_42_6 at h
  refine mv_E.rT (t := mt_42) rfl 1 (f' := (1, [some (.ref 6), some (.int p0)], [.int p0])) (h' := (HPf C M o, c, s)) rfl ?_
  by_cases hc128 : p0 < 0
  · replace h := (if_pos hc128).symm.trans h
    refine mv_E.go rfl (mi_if_pos hc128) ?_
    refine mv_E.rT (t := mt_42) rfl 1 (f' := (36, [some (.ref 6), some (.int p0)], [.int 0])) (h' := (HPf C M o, c, s)) rfl ?_
    cases h
    exact mv_E.done rfl rfl
  replace h := (if_neg hc128).symm.trans h
  refine mv_E.go rfl (mi_if_neg hc128) ?_
  refine mv_E.rT (t := mt_42) rfl 6 (f' := (12, [some (.ref 6), some (.int p0)], [.int (46 - 1), .int p0])) (h' := (HPf C M o, c, s)) rfl ?_
  by_cases hc127 : (46 - 1) ≤ p0
  · replace h := (if_pos hc127).symm.trans h
    refine mv_E.go rfl (mi_icmp_pos hc127) ?_
    refine mv_E.rT (t := mt_42) rfl 1 (f' := (36, [some (.ref 6), some (.int p0)], [.int 0])) (h' := (HPf C M o, c, s)) rfl ?_
    cases h
    exact mv_E.done rfl rfl
  replace h := (if_neg hc127).symm.trans h
  refine mv_E.go rfl (mi_icmp_neg hc127) ?_
  refine mv_E.rT (t := mt_42) rfl 5 (f' := (22, [some (.ref 6), some (.int p0)], [.int (p0 + 1), .ref 8])) (h' := (HPf C M o, c, s)) rfl ?_
  by_cases hb125 : mv_in (p0 + 1) 46 = true
  rotate_left
  · cases (if_neg hb125).symm.trans h
  replace h := (if_pos hb125).symm.trans h
  refine mv_E.go rfl (mi_iald_at rfl hb125) ?_
  refine mv_E.rT (t := mt_42) rfl 3 (f' := (28, [some (.ref 6), some (.int p0)], [.int p0, .ref 8, .int (kst_8 (p0 + 1).toNatClampNeg)])) (h' := (HPf C M o, c, s)) rfl ?_
  by_cases hb126 : mv_in p0 46 = true
  rotate_left
  · cases (if_neg hb126).symm.trans h
  replace h := (if_pos hb126).symm.trans h
  refine mv_E.go rfl (mi_iald_at rfl hb126) ?_
  refine mv_E.rT (t := mt_42) rfl 4 (f' := (36, [some (.ref 6), some (.int p0)], [.int (((kst_8 (p0 + 1).toNatClampNeg) - (kst_8 p0.toNatClampNeg)) - 1)])) (h' := (HPf C M o, c, s)) rfl ?_
  cases h
  exact mv_E.done rfl rfl
def b_43_6_19 : Nat → CS → Int32 → Int32 → Int32 → Option (Int32)
  | 0, _, _, _, _ => none
  | n + 1, C, l1, l3, l4 => (if l3 ≤ l4 then some 1 else if mv_in l1 46 = true then if sok 0 ((kst_8 l1.toNatClampNeg) + l4) = true then if mv_in l4 2000 = true then (if (sc 0 ((kst_8 l1.toNatClampNeg) + l4)) = ((C.2 1) l4.toNatClampNeg) then (b_43_6_19 n C) l1 l3 (l4 + 1) else some 0) else none else none else none)
theorem tb_43_6_19 (L : Nat) (xs : Nat → Int32) (M : CS) (o : Nat → Int64) (c s : Nat) : ∀ (n : Nat) (C : CS) (l1 : Int32) (l3 : Int32) (l4 : Int32) (ret : Int32), b_43_6_19 n C l1 l3 l4 = some ret → mv_E (mp L xs) 43 (19, [some (.ref 6), some (.int l1), some (.ref 3), some (.int l3), some (.int l4)], []) (HPf C M o, c, s) ((.inl (some (.int ret)), (HPf C M o, c, s))) := by
  intro n
  induction n with
  | zero => intro C l1 l3 l4 ret h; rw [b_43_6_19] at h; cases h
  | succ n ih =>
    intro C l1 l3 l4 ret h
    rw [b_43_6_19] at h
    refine mv_E.rT (t := mt_43) rfl 2 (f' := (22, [some (.ref 6), some (.int l1), some (.ref 3), some (.int l3), some (.int l4)], [.int l3, .int l4])) (h' := (HPf C M o, c, s)) rfl ?_
    by_cases hc140 : l3 ≤ l4
    · replace h := (if_pos hc140).symm.trans h
      refine mv_E.go rfl (mi_icmp_pos hc140) ?_
      refine mv_E.rT (t := mt_43) rfl 1 (f' := (60, [some (.ref 6), some (.int l1), some (.ref 3), some (.int l3), some (.int l4)], [.int 1])) (h' := (HPf C M o, c, s)) rfl ?_
      cases h
      exact mv_E.done rfl mi_zret1
    replace h := (if_neg hc140).symm.trans h
    refine mv_E.go rfl (mi_icmp_neg hc140) ?_
    refine mv_E.rT (t := mt_43) rfl 5 (f' := (34, [some (.ref 6), some (.int l1), some (.ref 3), some (.int l3), some (.int l4)], [.int l1, .ref 8, .retAddr 0])) (h' := (HPf C M o, c, s)) rfl ?_
    by_cases hb136 : mv_in l1 46 = true
    rotate_left
    · cases (if_neg hb136).symm.trans h
    replace h := (if_pos hb136).symm.trans h
    refine mv_E.go rfl (mi_iald_at rfl hb136) ?_
    refine mv_E.rT (t := mt_43) rfl 2 (f' := (38, [some (.ref 6), some (.int l1), some (.ref 3), some (.int l3), some (.int l4)], [.int ((kst_8 l1.toNatClampNeg) + l4), .retAddr 0])) (h' := (HPf C M o, c, s)) rfl ?_
    by_cases hq139 : sok 0 ((kst_8 l1.toNatClampNeg) + l4) = true
    rotate_left
    · cases (if_neg hq139).symm.trans h
    replace h := (if_pos hq139).symm.trans h
    refine mv_E.call (z := 8) (vs := [.retAddr 0, .int ((kst_8 l1.toNatClampNeg) + l4)]) (f' := (41, [some (.ref 6), some (.int l1), some (.ref 3), some (.int l3), some (.int l4)], [])) (h' := (HPf C M o, c, s)) rfl (mi_callK_at rfl (sok_q hq139) rfl rfl) rfl (t_char L xs hq139) mv_okr ?_
    refine mv_E.rT (t := mt_43) rfl 3 (f' := (47, [some (.ref 6), some (.int l1), some (.ref 3), some (.int l3), some (.int l4)], [.int l4, .ref 4, .int (sc 0 ((kst_8 l1.toNatClampNeg) + l4))])) (h' := (HPf C M o, c, s)) rfl ?_
    by_cases hb137 : mv_in l4 2000 = true
    rotate_left
    · cases (if_neg hb137).symm.trans h
    replace h := (if_pos hb137).symm.trans h
    refine mv_E.go rfl (mi_iald_at rfl hb137) ?_
    show mv_E (mp L xs) 43 (48, [some (.ref 6), some (.int l1), some (.ref 3), some (.int l3), some (.int l4)], [.int ((C.2 1) l4.toNatClampNeg), .int (sc 0 ((kst_8 l1.toNatClampNeg) + l4))]) (HPf C M o, c, s) _
    by_cases hc138 : (sc 0 ((kst_8 l1.toNatClampNeg) + l4)) = ((C.2 1) l4.toNatClampNeg)
    · replace h := (if_pos hc138).symm.trans h
      refine mv_E.go rfl (mi_icmp_pos hc138) ?_
      refine mv_E.rT (t := mt_43) rfl 2 (f' := (19, [some (.ref 6), some (.int l1), some (.ref 3), some (.int l3), some (.int (l4 + 1))], [])) (h' := (HPf C M o, c, s)) rfl ?_
      exact (ih C) l1 l3 (l4 + 1) _ h
    replace h := (if_neg hc138).symm.trans h
    refine mv_E.go rfl (mi_icmp_neg hc138) ?_
    refine mv_E.rT (t := mt_43) rfl 1 (f' := (52, [some (.ref 6), some (.int l1), some (.ref 3), some (.int l3), some (.int l4)], [.int 0])) (h' := (HPf C M o, c, s)) rfl ?_
    cases h
    exact mv_E.done rfl mi_zret0
def f_43_6 (C : CS) (p0 : Int32) : Option (Int32) := (f_42_6 C p0).bind fun r129 => (if r129 = (C.1 10) then b_43_6_19 fu C p0 r129 0 else some 0)
theorem t_43_6 (L : Nat) (xs : Nat → Int32) {C M : CS} {o : Nat → Int64} {c s : Nat} {p0 : Int32} {ret : Int32} (h : f_43_6 C p0 = some ret) : mv_E (mp L xs) 43 (0, [some (.ref 6), some (.int p0), some (.ref 3), none, none], []) (HPf C M o, c, s) ((.inl (some (.int ret)), (HPf C M o, c, s))) := by
  unfold f_43_6 at h
  refine mv_E.rT (t := mt_43) rfl 2 (f' := (2, [some (.ref 6), some (.int p0), some (.ref 3), none, none], [.int p0, .ref 6])) (h' := (HPf C M o, c, s)) rfl ?_
  obtain ⟨r129, hr130, h⟩ := Option.bind_eq_some_iff.mp h
  refine mv_E.call (z := 42) (vs := [.ref 6, .int p0]) (f' := (5, [some (.ref 6), some (.int p0), some (.ref 3), none, none], [])) (h' := (HPf C M o, c, s)) rfl rfl rfl (t_42_6 L xs hr130) (mv_okl rfl) ?_
  refine mv_E.rT (t := mt_43) rfl 4 (f' := (11, [some (.ref 6), some (.int p0), some (.ref 3), some (.int r129), none], [.int (C.1 10), .int r129])) (h' := (HPf C M o, c, s)) rfl ?_
  by_cases hc141 : r129 = (C.1 10)
  · replace h := (if_pos hc141).symm.trans h
    refine mv_E.go rfl (mi_icmp_pos hc141) ?_
    refine mv_E.rT (t := mt_43) rfl 2 (f' := (19, [some (.ref 6), some (.int p0), some (.ref 3), some (.int r129), some (.int 0)], [])) (h' := (HPf C M o, c, s)) rfl ?_
    exact tb_43_6_19 L xs M o c s fu C p0 r129 0 _ h
  replace h := (if_neg hc141).symm.trans h
  refine mv_E.go rfl (mi_icmp_neg hc141) ?_
  refine mv_E.rT (t := mt_43) rfl 1 (f' := (15, [some (.ref 6), some (.int p0), some (.ref 3), some (.int r129), none], [.int 0])) (h' := (HPf C M o, c, s)) rfl ?_
  cases h
  exact mv_E.done rfl mi_zret0
def b_44_6_2 : Nat → CS → Int32 → Option (Int32)
  | 0, _, _ => none
  | n + 1, C, l2 => (if (46 - 1) ≤ l2 then some (-1) else (f_43_6 C l2).bind fun r142 => (if r142 = 0 then (b_44_6_2 n C) (l2 + 1) else some l2))
theorem tb_44_6_2 (L : Nat) (xs : Nat → Int32) (M : CS) (o : Nat → Int64) (c s : Nat) : ∀ (n : Nat) (C : CS) (l2 : Int32) (ret : Int32), b_44_6_2 n C l2 = some ret → mv_E (mp L xs) 44 (2, [some (.ref 6), some (.ref 3), some (.int l2)], []) (HPf C M o, c, s) ((.inl (some (.int ret)), (HPf C M o, c, s))) := by
  intro n
  induction n with
  | zero => intro C l2 ret h; rw [b_44_6_2] at h; cases h
  | succ n ih =>
    intro C l2 ret h
    rw [b_44_6_2] at h
    refine mv_E.rT (t := mt_44) rfl 6 (f' := (10, [some (.ref 6), some (.ref 3), some (.int l2)], [.int (46 - 1), .int l2])) (h' := (HPf C M o, c, s)) rfl ?_
    by_cases hc149 : (46 - 1) ≤ l2
    · replace h := (if_pos hc149).symm.trans h
      refine mv_E.go rfl (mi_icmp_pos hc149) ?_
      refine mv_E.rT (t := mt_44) rfl 1 (f' := (31, [some (.ref 6), some (.ref 3), some (.int l2)], [.int (-1)])) (h' := (HPf C M o, c, s)) rfl ?_
      cases h
      exact mv_E.done rfl rfl
    replace h := (if_neg hc149).symm.trans h
    refine mv_E.go rfl (mi_icmp_neg hc149) ?_
    refine mv_E.rT (t := mt_44) rfl 3 (f' := (16, [some (.ref 6), some (.ref 3), some (.int l2)], [.ref 3, .int l2, .ref 6])) (h' := (HPf C M o, c, s)) rfl ?_
    obtain ⟨r146, hr147, h⟩ := Option.bind_eq_some_iff.mp h
    refine mv_E.call (z := 43) (vs := [.ref 6, .int l2, .ref 3]) (f' := (19, [some (.ref 6), some (.ref 3), some (.int l2)], [])) (h' := (HPf C M o, c, s)) rfl rfl rfl (t_43_6 L xs hr147) (mv_okl rfl) ?_
    show mv_E (mp L xs) 44 (19, [some (.ref 6), some (.ref 3), some (.int l2)], [.int r146]) (HPf C M o, c, s) _
    by_cases hc148 : r146 = 0
    · replace h := (if_pos hc148).symm.trans h
      refine mv_E.go rfl (mi_if_pos hc148) ?_
      refine mv_E.rT (t := mt_44) rfl 2 (f' := (2, [some (.ref 6), some (.ref 3), some (.int (l2 + 1))], [])) (h' := (HPf C M o, c, s)) rfl ?_
      exact (ih C) (l2 + 1) _ h
    replace h := (if_neg hc148).symm.trans h
    refine mv_E.go rfl (mi_if_neg hc148) ?_
    refine mv_E.rT (t := mt_44) rfl 1 (f' := (23, [some (.ref 6), some (.ref 3), some (.int l2)], [.int l2])) (h' := (HPf C M o, c, s)) rfl ?_
    cases h
    exact mv_E.done rfl rfl
def f_44_6 (C : CS) : Option (Int32) := b_44_6_2 fu C 0
theorem t_44_6 (L : Nat) (xs : Nat → Int32) {C M : CS} {o : Nat → Int64} {c s : Nat} {ret : Int32} (h : f_44_6 C = some ret) : mv_E (mp L xs) 44 (0, [some (.ref 6), some (.ref 3), none], []) (HPf C M o, c, s) ((.inl (some (.int ret)), (HPf C M o, c, s))) := by
  unfold f_44_6 at h
  refine mv_E.rT (t := mt_44) rfl 2 (f' := (2, [some (.ref 6), some (.ref 3), some (.int 0)], [])) (h' := (HPf C M o, c, s)) rfl ?_
  exact tb_44_6_2 L xs M o c s fu C 0 _ h
def f_38 (p0 : Int32) : Int32 := (if p0 < 48 then 0 else (if 57 < p0 then 0 else 1))
theorem t_38 (L : Nat) (xs : Nat → Int32) {hh : mv_H} {p0 : Int32} {ret : Int32} (h : f_38 p0 = ret) : mv_E (mp L xs) 38 (0, [some (.int p0)], []) hh ((.inl (some (.int ret)), hh)) := by
  unfold f_38 at h
  refine mv_E.rT (t := mt_38) rfl 2 (f' := (3, [some (.int p0)], [.int 48, .int p0])) (h' := hh) rfl ?_
  by_cases hc157 : p0 < 48
  · replace h := (if_pos hc157).symm.trans h
    refine mv_E.go rfl (mi_icmp_pos hc157) ?_
    refine mv_E.rT (t := mt_38) rfl 1 (f' := (17, [some (.int p0)], [.int 0])) (h' := hh) rfl ?_
    cases h
    exact mv_E.done rfl mi_zret0
  replace h := (if_neg hc157).symm.trans h
  refine mv_E.go rfl (mi_icmp_neg hc157) ?_
  refine mv_E.rT (t := mt_38) rfl 2 (f' := (9, [some (.int p0)], [.int 57, .int p0])) (h' := hh) rfl ?_
  by_cases hc156 : 57 < p0
  · replace h := (if_pos hc156).symm.trans h
    refine mv_E.go rfl (mi_icmp_pos hc156) ?_
    refine mv_E.rT (t := mt_38) rfl 1 (f' := (17, [some (.int p0)], [.int 0])) (h' := hh) rfl ?_
    cases h
    exact mv_E.done rfl mi_zret0
  replace h := (if_neg hc156).symm.trans h
  refine mv_E.go rfl (mi_icmp_neg hc156) ?_
  refine mv_E.rT (t := mt_38) rfl 2 (f' := (17, [some (.int p0)], [.int 1])) (h' := hh) rfl ?_
  cases h
  exact mv_E.done rfl mi_zret1
def f_39 (p0 : Int32) : Int32 := (if ¬ (f_35 p0) = 0 then 1 else (if (f_38 p0) = 0 then 0 else 1))
theorem t_39 (L : Nat) (xs : Nat → Int32) {hh : mv_H} {p0 : Int32} {ret : Int32} (h : f_39 p0 = ret) : mv_E (mp L xs) 39 (0, [some (.int p0)], []) hh ((.inl (some (.int ret)), hh)) := by
  unfold f_39 at h
  refine mv_E.rT (t := mt_39) rfl 1 (f' := (1, [some (.int p0)], [.int p0])) (h' := hh) rfl ?_
  refine mv_E.call (z := 35) (vs := [.int p0]) (f' := (4, [some (.int p0)], [])) (h' := hh) rfl rfl rfl (t_35 L xs rfl) (mv_okl rfl) ?_
  show mv_E (mp L xs) 39 (4, [some (.int p0)], [.int (f_35 p0)]) hh _
  by_cases hc159 : ¬ (f_35 p0) = 0
  · replace h := (if_pos hc159).symm.trans h
    refine mv_E.go rfl (mi_if_pos hc159) ?_
    refine mv_E.rT (t := mt_39) rfl 2 (f' := (19, [some (.int p0)], [.int 1])) (h' := hh) rfl ?_
    cases h
    exact mv_E.done rfl mi_zret1
  replace h := (if_neg hc159).symm.trans h
  refine mv_E.go rfl (mi_if_neg hc159) ?_
  refine mv_E.rT (t := mt_39) rfl 1 (f' := (8, [some (.int p0)], [.int p0])) (h' := hh) rfl ?_
  refine mv_E.call (z := 38) (vs := [.int p0]) (f' := (11, [some (.int p0)], [])) (h' := hh) rfl rfl rfl (t_38 L xs rfl) (mv_okl rfl) ?_
  show mv_E (mp L xs) 39 (11, [some (.int p0)], [.int (f_38 p0)]) hh _
  by_cases hc158 : (f_38 p0) = 0
  · replace h := (if_pos hc158).symm.trans h
    refine mv_E.go rfl (mi_if_pos hc158) ?_
    refine mv_E.rT (t := mt_39) rfl 1 (f' := (19, [some (.int p0)], [.int 0])) (h' := hh) rfl ?_
    cases h
    exact mv_E.done rfl mi_zret0
  replace h := (if_neg hc158).symm.trans h
  refine mv_E.go rfl (mi_if_neg hc158) ?_
  refine mv_E.rT (t := mt_39) rfl 2 (f' := (19, [some (.int p0)], [.int 1])) (h' := hh) rfl ?_
  cases h
  exact mv_E.done rfl mi_zret1
def f_40 (C : CS) (p0 : Int32) : Option (CS) := (if 2000 ≤ (C.1 10) then some C else if mv_in (C.1 10) 2000 = true then some (ru (C.1) 10 (((C.1 10) + 1)), ru (C.2) 1 (upd (C.2 1) (C.1 10).toNatClampNeg p0)) else none)
theorem t_40 (L : Nat) (xs : Nat → Int32) {C M : CS} {o : Nat → Int64} {c s : Nat} {p0 : Int32} {ret : CS} (h : f_40 C p0 = some ret) : mv_E (mp L xs) 40 (0, [some (.ref 3), some (.int p0)], []) (HPf C M o, c, s) ((.inl none, (HPf ret M o, c, s))) := by
  unfold f_40 at h
  refine mv_E.rT (t := mt_40) rfl 5 (f' := (9, [some (.ref 3), some (.int p0)], [.int 2000, .int (C.1 10)])) (h' := (HPf C M o, c, s)) rfl ?_
  by_cases hc161 : 2000 ≤ (C.1 10)
  · replace h := (if_pos hc161).symm.trans h
    refine mv_E.go rfl (mi_icmp_pos hc161) ?_
    show mv_E (mp L xs) 40 (32, [some (.ref 3), some (.int p0)], []) (HPf C M o, c, s) _
    cases h
    exact mv_E.done rfl rfl
  replace h := (if_neg hc161).symm.trans h
  refine mv_E.go rfl (mi_icmp_neg hc161) ?_
  refine mv_E.rT (t := mt_40) rfl 5 (f' := (21, [some (.ref 3), some (.int p0)], [.int p0, .int (C.1 10), .ref 4])) (h' := (HPf C M o, c, s)) rfl ?_
  by_cases hb160 : mv_in (C.1 10) 2000 = true
  rotate_left
  · cases (if_neg hb160).symm.trans h
  replace h := (if_pos hb160).symm.trans h
  refine mv_E.go rfl (mi_iast_at rfl hb160) ?_
  refine mv_E.rT (t := mt_40) rfl 6 (f' := (32, [some (.ref 3), some (.int p0)], [])) (h' := (HPf (ru (C.1) 10 (((C.1 10) + 1)), ru (C.2) 1 (upd (C.2 1) (C.1 10).toNatClampNeg p0)) M o, c, s)) rfl ?_
  cases h
  exact mv_E.done rfl rfl
def b_36_37 (l0 : Int32) : Int32 := (if l0 < 65 then (-1) else (if 70 < l0 then (-1) else ((l0 - 65) + 10)))
theorem tb_36_37 (L : Nat) (xs : Nat → Int32) (hh : mv_H) (l0 : Int32) (ret : Int32) (h : b_36_37 l0 = ret) : mv_E (mp L xs) 36 (37, [some (.int l0)], []) hh ((.inl (some (.int ret)), hh)) := by
  unfold b_36_37 at h
  refine mv_E.rT (t := mt_36) rfl 2 (f' := (40, [some (.int l0)], [.int 65, .int l0])) (h' := hh) rfl ?_
  by_cases hc172 : l0 < 65
  · replace h := (if_pos hc172).symm.trans h
    refine mv_E.go rfl (mi_icmp_pos hc172) ?_
    refine mv_E.rT (t := mt_36) rfl 1 (f' := (60, [some (.int l0)], [.int (-1)])) (h' := hh) rfl ?_
    cases h
    exact mv_E.done rfl rfl
  replace h := (if_neg hc172).symm.trans h
  refine mv_E.go rfl (mi_icmp_neg hc172) ?_
  refine mv_E.rT (t := mt_36) rfl 2 (f' := (46, [some (.int l0)], [.int 70, .int l0])) (h' := hh) rfl ?_
  by_cases hc171 : 70 < l0
  · replace h := (if_pos hc171).symm.trans h
    refine mv_E.go rfl (mi_icmp_pos hc171) ?_
    refine mv_E.rT (t := mt_36) rfl 1 (f' := (60, [some (.int l0)], [.int (-1)])) (h' := hh) rfl ?_
    cases h
    exact mv_E.done rfl rfl
  replace h := (if_neg hc171).symm.trans h
  refine mv_E.go rfl (mi_icmp_neg hc171) ?_
  refine mv_E.rT (t := mt_36) rfl 6 (f' := (60, [some (.int l0)], [.int ((l0 - 65) + 10)])) (h' := hh) rfl ?_
  cases h
  exact mv_E.done rfl rfl
def b_36_17 (l0 : Int32) : Int32 := (if l0 < 97 then b_36_37 l0 else (if 102 < l0 then b_36_37 l0 else ((l0 - 97) + 10)))
theorem tb_36_17 (L : Nat) (xs : Nat → Int32) (hh : mv_H) (l0 : Int32) (ret : Int32) (h : b_36_17 l0 = ret) : mv_E (mp L xs) 36 (17, [some (.int l0)], []) hh ((.inl (some (.int ret)), hh)) := by
  unfold b_36_17 at h
  refine mv_E.rT (t := mt_36) rfl 2 (f' := (20, [some (.int l0)], [.int 97, .int l0])) (h' := hh) rfl ?_
  by_cases hc176 : l0 < 97
  · replace h := (if_pos hc176).symm.trans h
    refine mv_E.go rfl (mi_icmp_pos hc176) ?_
    show mv_E (mp L xs) 36 (37, [some (.int l0)], []) hh _
    exact tb_36_37 L xs hh l0 _ h
  replace h := (if_neg hc176).symm.trans h
  refine mv_E.go rfl (mi_icmp_neg hc176) ?_
  refine mv_E.rT (t := mt_36) rfl 2 (f' := (26, [some (.int l0)], [.int 102, .int l0])) (h' := hh) rfl ?_
  by_cases hc175 : 102 < l0
  · replace h := (if_pos hc175).symm.trans h
    refine mv_E.go rfl (mi_icmp_pos hc175) ?_
    show mv_E (mp L xs) 36 (37, [some (.int l0)], []) hh _
    exact tb_36_37 L xs hh l0 _ h
  replace h := (if_neg hc175).symm.trans h
  refine mv_E.go rfl (mi_icmp_neg hc175) ?_
  refine mv_E.rT (t := mt_36) rfl 5 (f' := (36, [some (.int l0)], [.int ((l0 - 97) + 10)])) (h' := hh) rfl ?_
  cases h
  exact mv_E.done rfl rfl
def f_36 (p0 : Int32) : Int32 := (if p0 < 48 then b_36_17 p0 else (if 57 < p0 then b_36_17 p0 else (p0 - 48)))
theorem t_36 (L : Nat) (xs : Nat → Int32) {hh : mv_H} {p0 : Int32} {ret : Int32} (h : f_36 p0 = ret) : mv_E (mp L xs) 36 (0, [some (.int p0)], []) hh ((.inl (some (.int ret)), hh)) := by
  unfold f_36 at h
  refine mv_E.rT (t := mt_36) rfl 2 (f' := (3, [some (.int p0)], [.int 48, .int p0])) (h' := hh) rfl ?_
  by_cases hc178 : p0 < 48
  · replace h := (if_pos hc178).symm.trans h
    refine mv_E.go rfl (mi_icmp_pos hc178) ?_
    show mv_E (mp L xs) 36 (17, [some (.int p0)], []) hh _
    exact tb_36_17 L xs hh p0 _ h
  replace h := (if_neg hc178).symm.trans h
  refine mv_E.go rfl (mi_icmp_neg hc178) ?_
  refine mv_E.rT (t := mt_36) rfl 2 (f' := (9, [some (.int p0)], [.int 57, .int p0])) (h' := hh) rfl ?_
  by_cases hc177 : 57 < p0
  · replace h := (if_pos hc177).symm.trans h
    refine mv_E.go rfl (mi_icmp_pos hc177) ?_
    show mv_E (mp L xs) 36 (17, [some (.int p0)], []) hh _
    exact tb_36_17 L xs hh p0 _ h
  replace h := (if_neg hc177).symm.trans h
  refine mv_E.go rfl (mi_icmp_neg hc177) ?_
  refine mv_E.rT (t := mt_36) rfl 3 (f' := (16, [some (.int p0)], [.int (p0 - 48)])) (h' := hh) rfl ?_
  cases h
  exact mv_E.done rfl rfl
def b_37_4 : Nat → CS → Int32 → Int32 → Int32 → Option (Int32 × CS)
  | 0, _, _, _, _ => none
  | n + 1, C, l1, l2, l3 => (if l1 ≤ l3 then some (l2, C) else (f_28 C (C.1 11)).bind fun r167 => (if ¬ (f_36 r167) = (-1) then (b_37_4 n) (ru (C.1) 11 (((C.1 11) + 1)), C.2) l1 ((l2 * 16) + (f_36 r167)) (l3 + 1) else (f_32 C (C.1 11)).bind fun r179 => some ((-1), r179.2)))
theorem tb_37_4 (L : Nat) (xs : Nat → Int32) (M : CS) (o : Nat → Int64) (c s : Nat) : ∀ (n : Nat) (C : CS) (l1 : Int32) (l2 : Int32) (l3 : Int32) (d4 : Option Int32) (ret : Int32 × CS), b_37_4 n C l1 l2 l3 = some ret → mv_E (mp L xs) 37 (4, [some (.ref 5), some (.int l1), some (.int l2), some (.int l3), d4.map .int], []) (HPf C M o, c, s) ((.inl (some (.int ret.1)), (HPf ret.2 M o, c, s))) := by
  intro n
  induction n with
  | zero => intro C l1 l2 l3 d4 ret h; rw [b_37_4] at h; cases h
  | succ n ih =>
    intro C l1 l2 l3 d4 ret h
    rw [b_37_4] at h
    refine mv_E.rT (t := mt_37) rfl 2 (f' := (6, [some (.ref 5), some (.int l1), some (.int l2), some (.int l3), d4.map .int], [.int l1, .int l3])) (h' := (HPf C M o, c, s)) rfl ?_
    by_cases hc188 : l1 ≤ l3
    · replace h := (if_pos hc188).symm.trans h
      refine mv_E.go rfl (mi_icmp_pos hc188) ?_
      refine mv_E.rT (t := mt_37) rfl 1 (f' := (67, [some (.ref 5), some (.int l1), some (.int l2), some (.int l3), d4.map .int], [.int l2])) (h' := (HPf C M o, c, s)) rfl ?_
      cases h
      exact mv_E.done rfl rfl
    replace h := (if_neg hc188).symm.trans h
    refine mv_E.go rfl (mi_icmp_neg hc188) ?_
    refine mv_E.rT (t := mt_37) rfl 4 (f' := (17, [some (.ref 5), some (.int l1), some (.int l2), some (.int l3), d4.map .int], [.int (C.1 11), .ref 1])) (h' := (HPf C M o, c, s)) rfl ?_
    obtain ⟨r183, hr184, h⟩ := Option.bind_eq_some_iff.mp h
    refine mv_E.call (z := 28) (vs := [.ref 1, .int (C.1 11)]) (f' := (20, [some (.ref 5), some (.int l1), some (.int l2), some (.int l3), d4.map .int], [])) (h' := (HPf C M o, c, s)) rfl rfl rfl (t_28 L xs hr184) (mv_okl rfl) ?_
    show mv_E (mp L xs) 37 (20, [some (.ref 5), some (.int l1), some (.int l2), some (.int l3), d4.map .int], [.int r183]) (HPf C M o, c, s) _
    refine mv_E.call (z := 36) (vs := [.int r183]) (f' := (23, [some (.ref 5), some (.int l1), some (.int l2), some (.int l3), d4.map .int], [])) (h' := (HPf C M o, c, s)) rfl rfl rfl (t_36 L xs rfl) (mv_okl rfl) ?_
    refine mv_E.rT (t := mt_37) rfl 3 (f' := (28, [some (.ref 5), some (.int l1), some (.int l2), some (.int l3), some (.int (f_36 r183))], [.int (-1), .int (f_36 r183)])) (h' := (HPf C M o, c, s)) rfl ?_
    by_cases hc187 : ¬ (f_36 r183) = (-1)
    · replace h := (if_pos hc187).symm.trans h
      refine mv_E.go rfl (mi_icmp_pos hc187) ?_
      refine mv_E.rT (t := mt_37) rfl 14 (f' := (4, [some (.ref 5), some (.int l1), some (.int ((l2 * 16) + (f_36 r183))), some (.int (l3 + 1)), some (.int (f_36 r183))], [])) (h' := (HPf (ru (C.1) 11 (((C.1 11) + 1)), C.2) M o, c, s)) rfl ?_
      exact ih (ru (C.1) 11 (((C.1 11) + 1)), C.2) l1 ((l2 * 16) + (f_36 r183)) (l3 + 1) (some (f_36 r183)) _ h
    replace h := (if_neg hc187).symm.trans h
    refine mv_E.go rfl (mi_icmp_neg hc187) ?_
    refine mv_E.rT (t := mt_37) rfl 3 (f' := (36, [some (.ref 5), some (.int l1), some (.int l2), some (.int l3), some (.int (f_36 r183))], [.int (C.1 11), .ref 5])) (h' := (HPf C M o, c, s)) rfl ?_
    obtain ⟨r185, hr186, h⟩ := Option.bind_eq_some_iff.mp h
    refine mv_E.call (z := 32) (vs := [.ref 5, .int (C.1 11)]) (f' := (39, [some (.ref 5), some (.int l1), some (.int l2), some (.int l3), some (.int (f_36 r183))], [])) (h' := (HPf C M o, c, s)) rfl rfl rfl (t_32 L xs hr186) (mv_okl rfl) ?_
    refine mv_E.rT (t := mt_37) rfl 2 (f' := (41, [some (.ref 5), some (.int l1), some (.int l2), some (.int l3), some (.int (f_36 r183))], [.int (-1)])) (h' := (HPf r185.2 M o, c, s)) rfl ?_
    cases h
    exact mv_E.done rfl rfl
def f_37 (C : CS) (p0 : Int32) : Option (Int32 × CS) := b_37_4 fu C p0 0 0
theorem t_37 (L : Nat) (xs : Nat → Int32) {C M : CS} {o : Nat → Int64} {c s : Nat} {p0 : Int32} {ret : Int32 × CS} (h : f_37 C p0 = some ret) : mv_E (mp L xs) 37 (0, [some (.ref 5), some (.int p0), none, none, none], []) (HPf C M o, c, s) ((.inl (some (.int ret.1)), (HPf ret.2 M o, c, s))) := by
  unfold f_37 at h
  refine mv_E.rT (t := mt_37) rfl 4 (f' := (4, [some (.ref 5), some (.int p0), some (.int 0), some (.int 0), none], [])) (h' := (HPf C M o, c, s)) rfl ?_
  exact tb_37_4 L xs M o c s fu C p0 0 0 none _ h
def b_41_92 (C : CS) (l1 : Int32) (l2 : Int32) (s0 : Int32) : Option (Int32 × CS) := (if ¬ s0 = 0 then (f_40 C l2).bind fun r191 => some (1, r191) else (f_32 C l1).bind fun r193 => if r193.1 = 0 ∨ r193.1 = 1 then some (r193.1, r193.2) else none)
theorem tb_41_92 (L : Nat) (xs : Nat → Int32) (M : CS) (o : Nat → Int64) (c s : Nat) (C : CS) (l1 : Int32) (l2 : Int32) (s0 : Int32) (d3 : Option Int32) (ret : Int32 × CS) (h : b_41_92 C l1 l2 s0 = some ret) : mv_E (mp L xs) 41 (92, [some (.ref 5), some (.int l1), some (.int l2), d3.map .int], [.int s0]) (HPf C M o, c, s) ((.inl (some (.int ret.1)), (HPf ret.2 M o, c, s))) := by
  unfold b_41_92 at h
  refine mv_E.rT (t := mt_41) rfl 2 (f' := (94, [some (.ref 5), some (.int l1), some (.int l2), some (.int s0)], [.int s0])) (h' := (HPf C M o, c, s)) rfl ?_
  by_cases hc202 : ¬ s0 = 0
  · replace h := (if_pos hc202).symm.trans h
    refine mv_E.go rfl (mi_if_pos hc202) ?_
    refine mv_E.rT (t := mt_41) rfl 3 (f' := (108, [some (.ref 5), some (.int l1), some (.int l2), some (.int s0)], [.int l2, .ref 3])) (h' := (HPf C M o, c, s)) rfl ?_
    obtain ⟨r197, hr198, h⟩ := Option.bind_eq_some_iff.mp h
    refine mv_E.call (z := 40) (vs := [.ref 3, .int l2]) (f' := (111, [some (.ref 5), some (.int l1), some (.int l2), some (.int s0)], [])) (h' := (HPf C M o, c, s)) rfl rfl rfl (t_40 L xs hr198) (mv_okl rfl) ?_
    refine mv_E.rT (t := mt_41) rfl 1 (f' := (112, [some (.ref 5), some (.int l1), some (.int l2), some (.int s0)], [.int 1])) (h' := (HPf r197 M o, c, s)) rfl ?_
    cases h
    exact mv_E.done rfl mi_zret1
  replace h := (if_neg hc202).symm.trans h
  refine mv_E.go rfl (mi_if_neg hc202) ?_
  refine mv_E.rT (t := mt_41) rfl 2 (f' := (99, [some (.ref 5), some (.int l1), some (.int l2), some (.int s0)], [.int l1, .ref 5])) (h' := (HPf C M o, c, s)) rfl ?_
  obtain ⟨r199, hr200, h⟩ := Option.bind_eq_some_iff.mp h
  refine mv_E.call (z := 32) (vs := [.ref 5, .int l1]) (f' := (102, [some (.ref 5), some (.int l1), some (.int l2), some (.int s0)], [])) (h' := (HPf C M o, c, s)) rfl rfl rfl (t_32 L xs hr200) (mv_okl rfl) ?_
  show mv_E (mp L xs) 41 (102, [some (.ref 5), some (.int l1), some (.int l2), some (.int s0)], [.int r199.1]) (HPf r199.2 M o, c, s) _
  by_cases hz201 : r199.1 = 0 ∨ r199.1 = 1
  rotate_left
  · cases (if_neg hz201).symm.trans h
  replace h := (if_pos hz201).symm.trans h
  cases h
  exact mv_E.done rfl (mi_zret_at hz201)
def f_41 (C : CS) : Option (Int32 × CS) := (f_28 (ru (ru (C.1) 8 (1)) 11 (((C.1 11) + 1)), C.2) ((C.1 11) + 1)).bind fun r165 => (if r165 = 117 then (f_37 (ru (ru (C.1) 8 (1)) 11 ((((C.1 11) + 1) + 1)), C.2) 4).bind fun r189 => (if ¬ r189.1 = (-1) then (if ¬ (r189.2.1 10) = 0 then b_41_92 r189.2 (C.1 11) r189.1 (f_39 r189.1) else b_41_92 r189.2 (C.1 11) r189.1 (f_35 r189.1)) else some (0, r189.2)) else (f_32 (ru (ru (C.1) 8 (1)) 11 (((C.1 11) + 1)), C.2) ((C.1 11) + 1)).bind fun r205 => if r205.1 = 0 ∨ r205.1 = 1 then some (r205.1, r205.2) else none)
theorem t_41 (L : Nat) (xs : Nat → Int32) {C M : CS} {o : Nat → Int64} {c s : Nat} {ret : Int32 × CS} (h : f_41 C = some ret) : mv_E (mp L xs) 41 (0, [some (.ref 5), none, none, none], []) (HPf C M o, c, s) ((.inl (some (.int ret.1)), (HPf ret.2 M o, c, s))) := by
  unfold f_41 at h
  refine mv_E.rT (t := mt_41) rfl 17 (f' := (31, [some (.ref 5), some (.int (C.1 11)), none, none], [.int ((C.1 11) + 1), .ref 1])) (h' := (HPf (ru (ru (C.1) 8 (1)) 11 (((C.1 11) + 1)), C.2) M o, c, s)) rfl ?_
  obtain ⟨r165, hr166, h⟩ := Option.bind_eq_some_iff.mp h
  refine mv_E.call (z := 28) (vs := [.ref 1, .int ((C.1 11) + 1)]) (f' := (34, [some (.ref 5), some (.int (C.1 11)), none, none], [])) (h' := (HPf (ru (ru (C.1) 8 (1)) 11 (((C.1 11) + 1)), C.2) M o, c, s)) rfl rfl rfl (t_28 L xs hr166) (mv_okl rfl) ?_
  refine mv_E.rT (t := mt_41) rfl 1 (f' := (36, [some (.ref 5), some (.int (C.1 11)), none, none], [.int 117, .int r165])) (h' := (HPf (ru (ru (C.1) 8 (1)) 11 (((C.1 11) + 1)), C.2) M o, c, s)) rfl ?_
  by_cases hc208 : r165 = 117
  · replace h := (if_pos hc208).symm.trans h
    refine mv_E.go rfl (mi_icmp_pos hc208) ?_
    refine mv_E.rT (t := mt_41) rfl 8 (f' := (60, [some (.ref 5), some (.int (C.1 11)), none, none], [.int 4, .ref 5])) (h' := (HPf (ru (ru (C.1) 8 (1)) 11 ((((C.1 11) + 1) + 1)), C.2) M o, c, s)) rfl ?_
    obtain ⟨r189, hr190, h⟩ := Option.bind_eq_some_iff.mp h
    refine mv_E.call (z := 37) (vs := [.ref 5, .int 4]) (f' := (63, [some (.ref 5), some (.int (C.1 11)), none, none], [])) (h' := (HPf (ru (ru (C.1) 8 (1)) 11 ((((C.1 11) + 1) + 1)), C.2) M o, c, s)) rfl rfl rfl (t_37 L xs hr190) (mv_okl rfl) ?_
    refine mv_E.rT (t := mt_41) rfl 3 (f' := (66, [some (.ref 5), some (.int (C.1 11)), some (.int r189.1), none], [.int (-1), .int r189.1])) (h' := (HPf r189.2 M o, c, s)) rfl ?_
    by_cases hc204 : ¬ r189.1 = (-1)
    · replace h := (if_pos hc204).symm.trans h
      refine mv_E.go rfl (mi_icmp_pos hc204) ?_
      refine mv_E.rT (t := mt_41) rfl 3 (f' := (78, [some (.ref 5), some (.int (C.1 11)), some (.int r189.1), none], [.int (r189.2.1 10)])) (h' := (HPf r189.2 M o, c, s)) rfl ?_
      by_cases hc203 : ¬ (r189.2.1 10) = 0
      · replace h := (if_pos hc203).symm.trans h
        refine mv_E.go rfl (mi_if_pos hc203) ?_
        refine mv_E.rT (t := mt_41) rfl 1 (f' := (89, [some (.ref 5), some (.int (C.1 11)), some (.int r189.1), none], [.int r189.1])) (h' := (HPf r189.2 M o, c, s)) rfl ?_
        refine mv_E.call (z := 39) (vs := [.int r189.1]) (f' := (92, [some (.ref 5), some (.int (C.1 11)), some (.int r189.1), none], [])) (h' := (HPf r189.2 M o, c, s)) rfl rfl rfl (t_39 L xs rfl) (mv_okl rfl) ?_
        show mv_E (mp L xs) 41 (92, [some (.ref 5), some (.int (C.1 11)), some (.int r189.1), none], [.int (f_39 r189.1)]) (HPf r189.2 M o, c, s) _
        exact tb_41_92 L xs M o c s r189.2 (C.1 11) r189.1 (f_39 r189.1) none _ h
      replace h := (if_neg hc203).symm.trans h
      refine mv_E.go rfl (mi_if_neg hc203) ?_
      refine mv_E.rT (t := mt_41) rfl 1 (f' := (82, [some (.ref 5), some (.int (C.1 11)), some (.int r189.1), none], [.int r189.1])) (h' := (HPf r189.2 M o, c, s)) rfl ?_
      refine mv_E.call (z := 35) (vs := [.int r189.1]) (f' := (85, [some (.ref 5), some (.int (C.1 11)), some (.int r189.1), none], [])) (h' := (HPf r189.2 M o, c, s)) rfl rfl rfl (t_35 L xs rfl) (mv_okl rfl) ?_
      refine mv_E.rT (t := mt_41) rfl 1 (f' := (92, [some (.ref 5), some (.int (C.1 11)), some (.int r189.1), none], [.int (f_35 r189.1)])) (h' := (HPf r189.2 M o, c, s)) rfl ?_
      exact tb_41_92 L xs M o c s r189.2 (C.1 11) r189.1 (f_35 r189.1) none _ h
    replace h := (if_neg hc204).symm.trans h
    refine mv_E.go rfl (mi_icmp_neg hc204) ?_
    refine mv_E.rT (t := mt_41) rfl 1 (f' := (70, [some (.ref 5), some (.int (C.1 11)), some (.int r189.1), none], [.int 0])) (h' := (HPf r189.2 M o, c, s)) rfl ?_
    cases h
    exact mv_E.done rfl mi_zret0
  replace h := (if_neg hc208).symm.trans h
  refine mv_E.go rfl (mi_icmp_neg hc208) ?_
  refine mv_E.rT (t := mt_41) rfl 3 (f' := (44, [some (.ref 5), some (.int (C.1 11)), none, none], [.int ((C.1 11) + 1), .ref 5])) (h' := (HPf (ru (ru (C.1) 8 (1)) 11 (((C.1 11) + 1)), C.2) M o, c, s)) rfl ?_
  obtain ⟨r205, hr206, h⟩ := Option.bind_eq_some_iff.mp h
  refine mv_E.call (z := 32) (vs := [.ref 5, .int ((C.1 11) + 1)]) (f' := (47, [some (.ref 5), some (.int (C.1 11)), none, none], [])) (h' := (HPf (ru (ru (C.1) 8 (1)) 11 (((C.1 11) + 1)), C.2) M o, c, s)) rfl rfl rfl (t_32 L xs hr206) (mv_okl rfl) ?_
  show mv_E (mp L xs) 41 (47, [some (.ref 5), some (.int (C.1 11)), none, none], [.int r205.1]) (HPf r205.2 M o, c, s) _
  by_cases hz207 : r205.1 = 0 ∨ r205.1 = 1
  rotate_left
  · cases (if_neg hz207).symm.trans h
  replace h := (if_pos hz207).symm.trans h
  cases h
  exact mv_E.done rfl (mi_zret_at hz207)
def b_45_79 (C : CS) : Option (Int32 × CS) := (f_44_6 C).bind fun r150 => some (1, (ru (C.1) 7 (r150), C.2))
theorem tb_45_79 (L : Nat) (xs : Nat → Int32) (M : CS) (o : Nat → Int64) (c s : Nat) (C : CS) (d1 : Option Int32) (d2 : Option Int32) (ret : Int32 × CS) (h : b_45_79 C = some ret) : mv_E (mp L xs) 45 (79, [some (.ref 5), d1.map .int, d2.map .int], []) (HPf C M o, c, s) ((.inl (some (.int ret.1)), (HPf ret.2 M o, c, s))) := by
  unfold b_45_79 at h
  refine mv_E.rT (t := mt_45) rfl 6 (f' := (91, [some (.ref 5), d1.map .int, d2.map .int], [.ref 3, .ref 6, .ref 3])) (h' := (HPf C M o, c, s)) rfl ?_
  obtain ⟨r152, hr153, h⟩ := Option.bind_eq_some_iff.mp h
  refine mv_E.call (z := 44) (vs := [.ref 6, .ref 3]) (f' := (94, [some (.ref 5), d1.map .int, d2.map .int], [.ref 3])) (h' := (HPf C M o, c, s)) rfl rfl rfl (t_44_6 L xs hr153) (mv_okl rfl) ?_
  refine mv_E.rT (t := mt_45) rfl 2 (f' := (98, [some (.ref 5), d1.map .int, d2.map .int], [.int 1])) (h' := (HPf (ru (C.1) 7 (r152), C.2) M o, c, s)) rfl ?_
  cases h
  exact mv_E.done rfl mi_zret1
def b_45_73 (k_10 : CS → Int32 → Option (Int32 × CS)) (C : CS) (l1 : Int32) : Option (Int32 × CS) := k_10 C (l1 + 1)
theorem tb_45_73 (L : Nat) (xs : Nat → Int32) (M : CS) (o : Nat → Int64) (c s : Nat) (C : CS) (k_10 : CS → Int32 → Option (Int32 × CS)) (hk_10 : ∀ (C : CS) (l1 : Int32) (d2 : Option Int32) (ret : Int32 × CS), k_10 C l1 = some ret → mv_E (mp L xs) 45 (10, [some (.ref 5), some (.int l1), d2.map .int], []) (HPf C M o, c, s) ((.inl (some (.int ret.1)), (HPf ret.2 M o, c, s)))) (l1 : Int32) (d2 : Option Int32) (ret : Int32 × CS) (h : b_45_73 k_10 C l1 = some ret) : mv_E (mp L xs) 45 (73, [some (.ref 5), some (.int l1), d2.map .int], []) (HPf C M o, c, s) ((.inl (some (.int ret.1)), (HPf ret.2 M o, c, s))) := by
  unfold b_45_73 at h
  refine mv_E.rT (t := mt_45) rfl 2 (f' := (10, [some (.ref 5), some (.int (l1 + 1)), d2.map .int], [])) (h' := (HPf C M o, c, s)) rfl ?_
  exact hk_10 C (l1 + 1) d2 _ h
def b_45_10 : Nat → CS → Int32 → Option (Int32 × CS)
  | 0, _, _ => none
  | n + 1, C, l1 => (if (f_19 C) ≤ l1 then b_45_79 C else (f_28 C (C.1 11)).bind fun r154 => (if ¬ r154 = 92 then (if (f_39 r154) = 0 then b_45_79 C else (f_40 C r154).bind fun r162 => b_45_73 (b_45_10 n) (ru (r162.1) 11 (((r162.1 11) + 1)), r162.2) l1) else (f_41 C).bind fun r209 => (if ¬ r209.1 = 0 then b_45_73 (b_45_10 n) r209.2 l1 else some (0, r209.2))))
theorem tb_45_10 (L : Nat) (xs : Nat → Int32) (M : CS) (o : Nat → Int64) (c s : Nat) : ∀ (n : Nat) (C : CS) (l1 : Int32) (d2 : Option Int32) (ret : Int32 × CS), b_45_10 n C l1 = some ret → mv_E (mp L xs) 45 (10, [some (.ref 5), some (.int l1), d2.map .int], []) (HPf C M o, c, s) ((.inl (some (.int ret.1)), (HPf ret.2 M o, c, s))) := by
  intro n
  induction n with
  | zero => intro C l1 d2 ret h; rw [b_45_10] at h; cases h
  | succ n ih =>
    intro C l1 d2 ret h
    rw [b_45_10] at h
    refine mv_E.rT (t := mt_45) rfl 3 (f' := (15, [some (.ref 5), some (.int l1), d2.map .int], [.ref 1, .int l1])) (h' := (HPf C M o, c, s)) rfl ?_
    refine mv_E.call (z := 19) (vs := [.ref 1]) (f' := (18, [some (.ref 5), some (.int l1), d2.map .int], [.int l1])) (h' := (HPf C M o, c, s)) rfl rfl rfl (t_19 L xs rfl) (mv_okl rfl) ?_
    show mv_E (mp L xs) 45 (18, [some (.ref 5), some (.int l1), d2.map .int], [.int (f_19 C), .int l1]) (HPf C M o, c, s) _
    by_cases hc223 : (f_19 C) ≤ l1
    · replace h := (if_pos hc223).symm.trans h
      refine mv_E.go rfl (mi_icmp_pos hc223) ?_
      show mv_E (mp L xs) 45 (79, [some (.ref 5), some (.int l1), d2.map .int], []) (HPf C M o, c, s) _
      exact tb_45_79 L xs M o c s C (some l1) d2 _ h
    replace h := (if_neg hc223).symm.trans h
    refine mv_E.go rfl (mi_icmp_neg hc223) ?_
    refine mv_E.rT (t := mt_45) rfl 4 (f' := (29, [some (.ref 5), some (.int l1), d2.map .int], [.int (C.1 11), .ref 1])) (h' := (HPf C M o, c, s)) rfl ?_
    obtain ⟨r214, hr215, h⟩ := Option.bind_eq_some_iff.mp h
    refine mv_E.call (z := 28) (vs := [.ref 1, .int (C.1 11)]) (f' := (32, [some (.ref 5), some (.int l1), d2.map .int], [])) (h' := (HPf C M o, c, s)) rfl rfl rfl (t_28 L xs hr215) (mv_okl rfl) ?_
    refine mv_E.rT (t := mt_45) rfl 3 (f' := (36, [some (.ref 5), some (.int l1), some (.int r214)], [.int 92, .int r214])) (h' := (HPf C M o, c, s)) rfl ?_
    by_cases hc222 : ¬ r214 = 92
    · replace h := (if_pos hc222).symm.trans h
      refine mv_E.go rfl (mi_icmp_pos hc222) ?_
      refine mv_E.rT (t := mt_45) rfl 1 (f' := (49, [some (.ref 5), some (.int l1), some (.int r214)], [.int r214])) (h' := (HPf C M o, c, s)) rfl ?_
      refine mv_E.call (z := 39) (vs := [.int r214]) (f' := (52, [some (.ref 5), some (.int l1), some (.int r214)], [])) (h' := (HPf C M o, c, s)) rfl rfl rfl (t_39 L xs rfl) (mv_okl rfl) ?_
      show mv_E (mp L xs) 45 (52, [some (.ref 5), some (.int l1), some (.int r214)], [.int (f_39 r214)]) (HPf C M o, c, s) _
      by_cases hc218 : (f_39 r214) = 0
      · replace h := (if_pos hc218).symm.trans h
        refine mv_E.go rfl (mi_if_pos hc218) ?_
        show mv_E (mp L xs) 45 (79, [some (.ref 5), some (.int l1), some (.int r214)], []) (HPf C M o, c, s) _
        exact tb_45_79 L xs M o c s C (some l1) (some r214) _ h
      replace h := (if_neg hc218).symm.trans h
      refine mv_E.go rfl (mi_if_neg hc218) ?_
      refine mv_E.rT (t := mt_45) rfl 3 (f' := (60, [some (.ref 5), some (.int l1), some (.int r214)], [.int r214, .ref 3])) (h' := (HPf C M o, c, s)) rfl ?_
      obtain ⟨r216, hr217, h⟩ := Option.bind_eq_some_iff.mp h
      refine mv_E.call (z := 40) (vs := [.ref 3, .int r214]) (f' := (63, [some (.ref 5), some (.int l1), some (.int r214)], [])) (h' := (HPf C M o, c, s)) rfl rfl rfl (t_40 L xs hr217) (mv_okl rfl) ?_
      refine mv_E.rT (t := mt_45) rfl 6 (f' := (73, [some (.ref 5), some (.int l1), some (.int r214)], [])) (h' := (HPf (ru (r216.1) 11 (((r216.1 11) + 1)), r216.2) M o, c, s)) rfl ?_
      exact tb_45_73 L xs M o c s (ru (r216.1) 11 (((r216.1 11) + 1)), r216.2) (b_45_10 n) ih l1 (some r214) _ h
    replace h := (if_neg hc222).symm.trans h
    refine mv_E.go rfl (mi_icmp_neg hc222) ?_
    refine mv_E.rT (t := mt_45) rfl 1 (f' := (40, [some (.ref 5), some (.int l1), some (.int r214)], [.ref 5])) (h' := (HPf C M o, c, s)) rfl ?_
    obtain ⟨r219, hr220, h⟩ := Option.bind_eq_some_iff.mp h
    refine mv_E.call (z := 41) (vs := [.ref 5]) (f' := (43, [some (.ref 5), some (.int l1), some (.int r214)], [])) (h' := (HPf C M o, c, s)) rfl rfl rfl (t_41 L xs hr220) (mv_okl rfl) ?_
    show mv_E (mp L xs) 45 (43, [some (.ref 5), some (.int l1), some (.int r214)], [.int r219.1]) (HPf r219.2 M o, c, s) _
    by_cases hc221 : ¬ r219.1 = 0
    · replace h := (if_pos hc221).symm.trans h
      refine mv_E.go rfl (mi_if_pos hc221) ?_
      show mv_E (mp L xs) 45 (73, [some (.ref 5), some (.int l1), some (.int r214)], []) (HPf r219.2 M o, c, s) _
      exact tb_45_73 L xs M o c s r219.2 (b_45_10 n) ih l1 (some r214) _ h
    replace h := (if_neg hc221).symm.trans h
    refine mv_E.go rfl (mi_if_neg hc221) ?_
    refine mv_E.rT (t := mt_45) rfl 1 (f' := (47, [some (.ref 5), some (.int l1), some (.int r214)], [.int 0])) (h' := (HPf r219.2 M o, c, s)) rfl ?_
    cases h
    exact mv_E.done rfl mi_zret0
def f_45 (C : CS) : Option (Int32 × CS) := b_45_10 fu (ru (C.1) 3 (1), C.2) 0
theorem t_45 (L : Nat) (xs : Nat → Int32) {C M : CS} {o : Nat → Int64} {c s : Nat} {ret : Int32 × CS} (h : f_45 C = some ret) : mv_E (mp L xs) 45 (0, [some (.ref 5), none, none], []) (HPf C M o, c, s) ((.inl (some (.int ret.1)), (HPf ret.2 M o, c, s))) := by
  unfold f_45 at h
  refine mv_E.rT (t := mt_45) rfl 6 (f' := (10, [some (.ref 5), some (.int 0), none], [])) (h' := (HPf (ru (C.1) 3 (1), C.2) M o, c, s)) rfl ?_
  exact tb_45_10 L xs M o c s fu (ru (C.1) 3 (1), C.2) 0 none _ h
def b_47_0 : Nat → CS → Option (CS)
  | 0, _ => none
  | n + 1, C => (if (f_19 C) ≤ (C.1 11) then some C else (f_28 C (C.1 11)).bind fun r238 => (if (f_38 r238) = 0 then some C else (b_47_0 n) (ru (C.1) 11 (((C.1 11) + 1)), C.2)))
theorem tb_47_0 (L : Nat) (xs : Nat → Int32) (M : CS) (o : Nat → Int64) (c s : Nat) : ∀ (n : Nat) (C : CS)  (ret : CS), b_47_0 n C = some ret → mv_E (mp L xs) 47 (0, [some (.ref 5)], []) (HPf C M o, c, s) ((.inl none, (HPf ret M o, c, s))) := by
  intro n
  induction n with
  | zero => intro C  ret h; rw [b_47_0] at h; cases h
  | succ n ih =>
    intro C  ret h
    rw [b_47_0] at h
    refine mv_E.rT (t := mt_47) rfl 4 (f' := (8, [some (.ref 5)], [.ref 1, .int (C.1 11)])) (h' := (HPf C M o, c, s)) rfl ?_
    refine mv_E.call (z := 19) (vs := [.ref 1]) (f' := (11, [some (.ref 5)], [.int (C.1 11)])) (h' := (HPf C M o, c, s)) rfl rfl rfl (t_19 L xs rfl) (mv_okl rfl) ?_
    show mv_E (mp L xs) 47 (11, [some (.ref 5)], [.int (f_19 C), .int (C.1 11)]) (HPf C M o, c, s) _
    by_cases hc245 : (f_19 C) ≤ (C.1 11)
    · replace h := (if_pos hc245).symm.trans h
      refine mv_E.go rfl (mi_icmp_pos hc245) ?_
      show mv_E (mp L xs) 47 (44, [some (.ref 5)], []) (HPf C M o, c, s) _
      cases h
      exact mv_E.done rfl rfl
    replace h := (if_neg hc245).symm.trans h
    refine mv_E.go rfl (mi_icmp_neg hc245) ?_
    refine mv_E.rT (t := mt_47) rfl 4 (f' := (22, [some (.ref 5)], [.int (C.1 11), .ref 1])) (h' := (HPf C M o, c, s)) rfl ?_
    obtain ⟨r242, hr243, h⟩ := Option.bind_eq_some_iff.mp h
    refine mv_E.call (z := 28) (vs := [.ref 1, .int (C.1 11)]) (f' := (25, [some (.ref 5)], [])) (h' := (HPf C M o, c, s)) rfl rfl rfl (t_28 L xs hr243) (mv_okl rfl) ?_
    show mv_E (mp L xs) 47 (25, [some (.ref 5)], [.int r242]) (HPf C M o, c, s) _
    refine mv_E.call (z := 38) (vs := [.int r242]) (f' := (28, [some (.ref 5)], [])) (h' := (HPf C M o, c, s)) rfl rfl rfl (t_38 L xs rfl) (mv_okl rfl) ?_
    show mv_E (mp L xs) 47 (28, [some (.ref 5)], [.int (f_38 r242)]) (HPf C M o, c, s) _
    by_cases hc244 : (f_38 r242) = 0
    · replace h := (if_pos hc244).symm.trans h
      refine mv_E.go rfl (mi_if_pos hc244) ?_
      show mv_E (mp L xs) 47 (44, [some (.ref 5)], []) (HPf C M o, c, s) _
      cases h
      exact mv_E.done rfl rfl
    replace h := (if_neg hc244).symm.trans h
    refine mv_E.go rfl (mi_if_neg hc244) ?_
    refine mv_E.rT (t := mt_47) rfl 7 (f' := (0, [some (.ref 5)], [])) (h' := (HPf (ru (C.1) 11 (((C.1 11) + 1)), C.2) M o, c, s)) rfl ?_
    exact ih (ru (C.1) 11 (((C.1 11) + 1)), C.2) _ h
def f_47 (C : CS) : Option (CS) := b_47_0 fu C
theorem t_47 (L : Nat) (xs : Nat → Int32) {C M : CS} {o : Nat → Int64} {c s : Nat} {ret : CS} (h : f_47 C = some ret) : mv_E (mp L xs) 47 (0, [some (.ref 5)], []) (HPf C M o, c, s) ((.inl none, (HPf ret M o, c, s))) := by
  unfold f_47 at h
  exact tb_47_0 L xs M o c s fu C _ h
def b_48_70 (C : CS) : Option (Int32 × CS) := (f_28 C (C.1 11)).bind fun r254 => (if ¬ (f_38 r254) = 0 then (f_47 C).bind fun r256 => some (1, r256) else (f_32 C (C.1 11)).bind fun r258 => if r258.1 = 0 ∨ r258.1 = 1 then some (r258.1, r258.2) else none)
theorem tb_48_70 (L : Nat) (xs : Nat → Int32) (M : CS) (o : Nat → Int64) (c s : Nat) (C : CS) (d1 : Option Int32) (d2 : Option Int32) (ret : Int32 × CS) (h : b_48_70 C = some ret) : mv_E (mp L xs) 48 (70, [some (.ref 5), d1.map .int, d2.map .int], []) (HPf C M o, c, s) ((.inl (some (.int ret.1)), (HPf ret.2 M o, c, s))) := by
  unfold b_48_70 at h
  refine mv_E.rT (t := mt_48) rfl 4 (f' := (78, [some (.ref 5), d1.map .int, d2.map .int], [.int (C.1 11), .ref 1])) (h' := (HPf C M o, c, s)) rfl ?_
  obtain ⟨r262, hr263, h⟩ := Option.bind_eq_some_iff.mp h
  refine mv_E.call (z := 28) (vs := [.ref 1, .int (C.1 11)]) (f' := (81, [some (.ref 5), d1.map .int, d2.map .int], [])) (h' := (HPf C M o, c, s)) rfl rfl rfl (t_28 L xs hr263) (mv_okl rfl) ?_
  show mv_E (mp L xs) 48 (81, [some (.ref 5), d1.map .int, d2.map .int], [.int r262]) (HPf C M o, c, s) _
  refine mv_E.call (z := 38) (vs := [.int r262]) (f' := (84, [some (.ref 5), d1.map .int, d2.map .int], [])) (h' := (HPf C M o, c, s)) rfl rfl rfl (t_38 L xs rfl) (mv_okl rfl) ?_
  show mv_E (mp L xs) 48 (84, [some (.ref 5), d1.map .int, d2.map .int], [.int (f_38 r262)]) (HPf C M o, c, s) _
  by_cases hc269 : ¬ (f_38 r262) = 0
  · replace h := (if_pos hc269).symm.trans h
    refine mv_E.go rfl (mi_if_pos hc269) ?_
    refine mv_E.rT (t := mt_48) rfl 1 (f' := (97, [some (.ref 5), d1.map .int, d2.map .int], [.ref 5])) (h' := (HPf C M o, c, s)) rfl ?_
    obtain ⟨r264, hr265, h⟩ := Option.bind_eq_some_iff.mp h
    refine mv_E.call (z := 47) (vs := [.ref 5]) (f' := (100, [some (.ref 5), d1.map .int, d2.map .int], [])) (h' := (HPf C M o, c, s)) rfl rfl rfl (t_47 L xs hr265) (mv_okl rfl) ?_
    refine mv_E.rT (t := mt_48) rfl 1 (f' := (101, [some (.ref 5), d1.map .int, d2.map .int], [.int 1])) (h' := (HPf r264 M o, c, s)) rfl ?_
    cases h
    exact mv_E.done rfl mi_zret1
  replace h := (if_neg hc269).symm.trans h
  refine mv_E.go rfl (mi_if_neg hc269) ?_
  refine mv_E.rT (t := mt_48) rfl 3 (f' := (92, [some (.ref 5), d1.map .int, d2.map .int], [.int (C.1 11), .ref 5])) (h' := (HPf C M o, c, s)) rfl ?_
  obtain ⟨r266, hr267, h⟩ := Option.bind_eq_some_iff.mp h
  refine mv_E.call (z := 32) (vs := [.ref 5, .int (C.1 11)]) (f' := (95, [some (.ref 5), d1.map .int, d2.map .int], [])) (h' := (HPf C M o, c, s)) rfl rfl rfl (t_32 L xs hr267) (mv_okl rfl) ?_
  show mv_E (mp L xs) 48 (95, [some (.ref 5), d1.map .int, d2.map .int], [.int r266.1]) (HPf r266.2 M o, c, s) _
  by_cases hz268 : r266.1 = 0 ∨ r266.1 = 1
  rotate_left
  · cases (if_neg hz268).symm.trans h
  replace h := (if_pos hz268).symm.trans h
  cases h
  exact mv_E.done rfl (mi_zret_at hz268)
def b_48_60 (C : CS) : Option (Int32 × CS) := b_48_70 (ru (C.1) 11 (((C.1 11) + 1)), C.2)
theorem tb_48_60 (L : Nat) (xs : Nat → Int32) (M : CS) (o : Nat → Int64) (c s : Nat) (C : CS) (d1 : Option Int32) (d2 : Option Int32) (ret : Int32 × CS) (h : b_48_60 C = some ret) : mv_E (mp L xs) 48 (60, [some (.ref 5), d1.map .int, d2.map .int], []) (HPf C M o, c, s) ((.inl (some (.int ret.1)), (HPf ret.2 M o, c, s))) := by
  unfold b_48_60 at h
  refine mv_E.rT (t := mt_48) rfl 6 (f' := (70, [some (.ref 5), d1.map .int, d2.map .int], [])) (h' := (HPf (ru (C.1) 11 (((C.1 11) + 1)), C.2) M o, c, s)) rfl ?_
  exact tb_48_70 L xs M o c s (ru (C.1) 11 (((C.1 11) + 1)), C.2) d1 d2 _ h
def b_48_26 (C : CS) : Option (Int32 × CS) := (f_28 (ru (C.1) 11 (((C.1 11) + 1)), C.2) ((C.1 11) + 1)).bind fun r252 => (if r252 = 43 then b_48_60 (ru (C.1) 11 (((C.1 11) + 1)), C.2) else (if ¬ r252 = 45 then b_48_70 (ru (C.1) 11 (((C.1 11) + 1)), C.2) else b_48_60 (ru (C.1) 11 (((C.1 11) + 1)), C.2)))
theorem tb_48_26 (L : Nat) (xs : Nat → Int32) (M : CS) (o : Nat → Int64) (c s : Nat) (C : CS) (d1 : Option Int32) (d2 : Option Int32) (ret : Int32 × CS) (h : b_48_26 C = some ret) : mv_E (mp L xs) 48 (26, [some (.ref 5), d1.map .int, d2.map .int], []) (HPf C M o, c, s) ((.inl (some (.int ret.1)), (HPf ret.2 M o, c, s))) := by
  unfold b_48_26 at h
  rcases d1 with _ | d1
  · refine mv_E.rT (t := mt_48) rfl 10 (f' := (44, [some (.ref 5), none, d2.map .int], [.int ((C.1 11) + 1), .ref 1])) (h' := (HPf (ru (C.1) 11 (((C.1 11) + 1)), C.2) M o, c, s)) rfl ?_
    obtain ⟨r272, hr273, h⟩ := Option.bind_eq_some_iff.mp h
    refine mv_E.call (z := 28) (vs := [.ref 1, .int ((C.1 11) + 1)]) (f' := (47, [some (.ref 5), none, d2.map .int], [])) (h' := (HPf (ru (C.1) 11 (((C.1 11) + 1)), C.2) M o, c, s)) rfl rfl rfl (t_28 L xs hr273) (mv_okl rfl) ?_
    refine mv_E.rT (t := mt_48) rfl 3 (f' := (51, [some (.ref 5), none, some (.int r272)], [.int 43, .int r272])) (h' := (HPf (ru (C.1) 11 (((C.1 11) + 1)), C.2) M o, c, s)) rfl ?_
    by_cases hc275 : r272 = 43
    · replace h := (if_pos hc275).symm.trans h
      refine mv_E.go rfl (mi_icmp_pos hc275) ?_
      show mv_E (mp L xs) 48 (60, [some (.ref 5), none, some (.int r272)], []) (HPf (ru (C.1) 11 (((C.1 11) + 1)), C.2) M o, c, s) _
      exact tb_48_60 L xs M o c s (ru (C.1) 11 (((C.1 11) + 1)), C.2) none (some r272) _ h
    replace h := (if_neg hc275).symm.trans h
    refine mv_E.go rfl (mi_icmp_neg hc275) ?_
    refine mv_E.rT (t := mt_48) rfl 2 (f' := (57, [some (.ref 5), none, some (.int r272)], [.int 45, .int r272])) (h' := (HPf (ru (C.1) 11 (((C.1 11) + 1)), C.2) M o, c, s)) rfl ?_
    by_cases hc274 : ¬ r272 = 45
    · replace h := (if_pos hc274).symm.trans h
      refine mv_E.go rfl (mi_icmp_pos hc274) ?_
      show mv_E (mp L xs) 48 (70, [some (.ref 5), none, some (.int r272)], []) (HPf (ru (C.1) 11 (((C.1 11) + 1)), C.2) M o, c, s) _
      exact tb_48_70 L xs M o c s (ru (C.1) 11 (((C.1 11) + 1)), C.2) none (some r272) _ h
    replace h := (if_neg hc274).symm.trans h
    refine mv_E.go rfl (mi_icmp_neg hc274) ?_
    show mv_E (mp L xs) 48 (60, [some (.ref 5), none, some (.int r272)], []) (HPf (ru (C.1) 11 (((C.1 11) + 1)), C.2) M o, c, s) _
    exact tb_48_60 L xs M o c s (ru (C.1) 11 (((C.1 11) + 1)), C.2) none (some r272) _ h
  · refine mv_E.rT (t := mt_48) rfl 10 (f' := (44, [some (.ref 5), some (.int d1), d2.map .int], [.int ((C.1 11) + 1), .ref 1])) (h' := (HPf (ru (C.1) 11 (((C.1 11) + 1)), C.2) M o, c, s)) rfl ?_
    obtain ⟨r276, hr277, h⟩ := Option.bind_eq_some_iff.mp h
    refine mv_E.call (z := 28) (vs := [.ref 1, .int ((C.1 11) + 1)]) (f' := (47, [some (.ref 5), some (.int d1), d2.map .int], [])) (h' := (HPf (ru (C.1) 11 (((C.1 11) + 1)), C.2) M o, c, s)) rfl rfl rfl (t_28 L xs hr277) (mv_okl rfl) ?_
    refine mv_E.rT (t := mt_48) rfl 3 (f' := (51, [some (.ref 5), some (.int d1), some (.int r276)], [.int 43, .int r276])) (h' := (HPf (ru (C.1) 11 (((C.1 11) + 1)), C.2) M o, c, s)) rfl ?_
    by_cases hc279 : r276 = 43
    · replace h := (if_pos hc279).symm.trans h
      refine mv_E.go rfl (mi_icmp_pos hc279) ?_
      show mv_E (mp L xs) 48 (60, [some (.ref 5), some (.int d1), some (.int r276)], []) (HPf (ru (C.1) 11 (((C.1 11) + 1)), C.2) M o, c, s) _
      exact tb_48_60 L xs M o c s (ru (C.1) 11 (((C.1 11) + 1)), C.2) (some d1) (some r276) _ h
    replace h := (if_neg hc279).symm.trans h
    refine mv_E.go rfl (mi_icmp_neg hc279) ?_
    refine mv_E.rT (t := mt_48) rfl 2 (f' := (57, [some (.ref 5), some (.int d1), some (.int r276)], [.int 45, .int r276])) (h' := (HPf (ru (C.1) 11 (((C.1 11) + 1)), C.2) M o, c, s)) rfl ?_
    by_cases hc278 : ¬ r276 = 45
    · replace h := (if_pos hc278).symm.trans h
      refine mv_E.go rfl (mi_icmp_pos hc278) ?_
      show mv_E (mp L xs) 48 (70, [some (.ref 5), some (.int d1), some (.int r276)], []) (HPf (ru (C.1) 11 (((C.1 11) + 1)), C.2) M o, c, s) _
      exact tb_48_70 L xs M o c s (ru (C.1) 11 (((C.1 11) + 1)), C.2) (some d1) (some r276) _ h
    replace h := (if_neg hc278).symm.trans h
    refine mv_E.go rfl (mi_icmp_neg hc278) ?_
    show mv_E (mp L xs) 48 (60, [some (.ref 5), some (.int d1), some (.int r276)], []) (HPf (ru (C.1) 11 (((C.1 11) + 1)), C.2) M o, c, s) _
    exact tb_48_60 L xs M o c s (ru (C.1) 11 (((C.1 11) + 1)), C.2) (some d1) (some r276) _ h
def f_48 (C : CS) : Option (Int32 × CS) := (f_28 C (C.1 11)).bind fun r250 => (if r250 = 101 then b_48_26 C else (if r250 = 69 then b_48_26 C else some (1, C)))
theorem t_48 (L : Nat) (xs : Nat → Int32) {C M : CS} {o : Nat → Int64} {c s : Nat} {ret : Int32 × CS} (h : f_48 C = some ret) : mv_E (mp L xs) 48 (0, [some (.ref 5), none, none], []) (HPf C M o, c, s) ((.inl (some (.int ret.1)), (HPf ret.2 M o, c, s))) := by
  unfold f_48 at h
  refine mv_E.rT (t := mt_48) rfl 4 (f' := (8, [some (.ref 5), none, none], [.int (C.1 11), .ref 1])) (h' := (HPf C M o, c, s)) rfl ?_
  obtain ⟨r250, hr251, h⟩ := Option.bind_eq_some_iff.mp h
  refine mv_E.call (z := 28) (vs := [.ref 1, .int (C.1 11)]) (f' := (11, [some (.ref 5), none, none], [])) (h' := (HPf C M o, c, s)) rfl rfl rfl (t_28 L xs hr251) (mv_okl rfl) ?_
  refine mv_E.rT (t := mt_48) rfl 3 (f' := (15, [some (.ref 5), some (.int r250), none], [.int 101, .int r250])) (h' := (HPf C M o, c, s)) rfl ?_
  by_cases hc281 : r250 = 101
  · replace h := (if_pos hc281).symm.trans h
    refine mv_E.go rfl (mi_icmp_pos hc281) ?_
    show mv_E (mp L xs) 48 (26, [some (.ref 5), some (.int r250), none], []) (HPf C M o, c, s) _
    exact tb_48_26 L xs M o c s C (some r250) none _ h
  replace h := (if_neg hc281).symm.trans h
  refine mv_E.go rfl (mi_icmp_neg hc281) ?_
  refine mv_E.rT (t := mt_48) rfl 2 (f' := (21, [some (.ref 5), some (.int r250), none], [.int 69, .int r250])) (h' := (HPf C M o, c, s)) rfl ?_
  by_cases hc280 : r250 = 69
  · replace h := (if_pos hc280).symm.trans h
    refine mv_E.go rfl (mi_icmp_pos hc280) ?_
    show mv_E (mp L xs) 48 (26, [some (.ref 5), some (.int r250), none], []) (HPf C M o, c, s) _
    exact tb_48_26 L xs M o c s C (some r250) none _ h
  replace h := (if_neg hc280).symm.trans h
  refine mv_E.go rfl (mi_icmp_neg hc280) ?_
  refine mv_E.rT (t := mt_48) rfl 1 (f' := (25, [some (.ref 5), some (.int r250), none], [.int 1])) (h' := (HPf C M o, c, s)) rfl ?_
  cases h
  exact mv_E.done rfl mi_zret1
