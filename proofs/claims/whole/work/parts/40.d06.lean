def f_131_12 (C : CS) (p0 : Int32) (p1 : Int32) : Option (Int32) := (if p1 < 0 then some (-1) else (f_118_12 C p0).bind fun r777 => (if r777 ≤ p1 then some (-1) else (f_117_12 C p0).bind fun r779 => if mv_in (r779 + p1) 2000 = true then some ((C.2 2) (r779 + p1).toNatClampNeg) else none))
theorem t_131_12 (L : Nat) (xs : Nat → Int32) {C M : CS} {o : Nat → Int64} {c s : Nat} {p0 : Int32} {p1 : Int32} {ret : Int32} (h : f_131_12 C p0 p1 = some ret) : mv_E (mp L xs) 131 (0, [some (.ref 12), some (.int p0), some (.int p1)], []) (HPf C M o, c, s) ((.inl (some (.int ret)), (HPf C M o, c, s))) := by
  unfold f_131_12 at h
  refine mv_E.rT (t := mt_131) rfl 1 (f' := (1, [some (.ref 12), some (.int p0), some (.int p1)], [.int p1])) (h' := (HPf C M o, c, s)) rfl ?_
  by_cases hc783 : p1 < 0
  · replace h := (if_pos hc783).symm.trans h
    refine mv_E.go rfl (mi_if_pos hc783) ?_
    refine mv_E.rT (t := mt_131) rfl 1 (f' := (29, [some (.ref 12), some (.int p0), some (.int p1)], [.int (-1)])) (h' := (HPf C M o, c, s)) rfl ?_
    cases h
    exact mv_E.done rfl rfl
  replace h := (if_neg hc783).symm.trans h
  refine mv_E.go rfl (mi_if_neg hc783) ?_
  refine mv_E.rT (t := mt_131) rfl 3 (f' := (7, [some (.ref 12), some (.int p0), some (.int p1)], [.int p0, .ref 12, .int p1])) (h' := (HPf C M o, c, s)) rfl ?_
  obtain ⟨r777, hr778, h⟩ := Option.bind_eq_some_iff.mp h
  refine mv_E.call (z := 118) (vs := [.ref 12, .int p0]) (f' := (10, [some (.ref 12), some (.int p0), some (.int p1)], [.int p1])) (h' := (HPf C M o, c, s)) rfl rfl rfl (t_118_12 L xs hr778) (mv_okl rfl) ?_
  show mv_E (mp L xs) 131 (10, [some (.ref 12), some (.int p0), some (.int p1)], [.int r777, .int p1]) (HPf C M o, c, s) _
  by_cases hc782 : r777 ≤ p1
  · replace h := (if_pos hc782).symm.trans h
    refine mv_E.go rfl (mi_icmp_pos hc782) ?_
    refine mv_E.rT (t := mt_131) rfl 1 (f' := (29, [some (.ref 12), some (.int p0), some (.int p1)], [.int (-1)])) (h' := (HPf C M o, c, s)) rfl ?_
    cases h
    exact mv_E.done rfl rfl
  replace h := (if_neg hc782).symm.trans h
  refine mv_E.go rfl (mi_icmp_neg hc782) ?_
  refine mv_E.rT (t := mt_131) rfl 4 (f' := (19, [some (.ref 12), some (.int p0), some (.int p1)], [.int p0, .ref 12, .ref 13])) (h' := (HPf C M o, c, s)) rfl ?_
  obtain ⟨r779, hr780, h⟩ := Option.bind_eq_some_iff.mp h
  refine mv_E.call (z := 117) (vs := [.ref 12, .int p0]) (f' := (22, [some (.ref 12), some (.int p0), some (.int p1)], [.ref 13])) (h' := (HPf C M o, c, s)) rfl rfl rfl (t_117_12 L xs hr780) (mv_okl rfl) ?_
  refine mv_E.rT (t := mt_131) rfl 2 (f' := (24, [some (.ref 12), some (.int p0), some (.int p1)], [.int (r779 + p1), .ref 13])) (h' := (HPf C M o, c, s)) rfl ?_
  by_cases hb781 : mv_in (r779 + p1) 2000 = true
  rotate_left
  · cases (if_neg hb781).symm.trans h
  replace h := (if_pos hb781).symm.trans h
  refine mv_E.go rfl (mi_iald_at rfl hb781) ?_
  refine mv_E.rT (t := mt_131) rfl 1 (f' := (29, [some (.ref 12), some (.int p0), some (.int p1)], [.int ((C.2 2) (r779 + p1).toNatClampNeg)])) (h' := (HPf C M o, c, s)) rfl ?_
  cases h
  exact mv_E.done rfl rfl
def f_116_15 (C : CS) (p0 : Int32) : Int32 := (if p0 < 0 then 0 else (if (C.1 14) ≤ p0 then 0 else 1))
theorem t_116_15 (L : Nat) (xs : Nat → Int32) {C M : CS} {o : Nat → Int64} {c s : Nat} {p0 : Int32} {ret : Int32} (h : f_116_15 C p0 = ret) : mv_E (mp L xs) 116 (0, [some (.ref 15), some (.int p0)], []) (HPf C M o, c, s) ((.inl (some (.int ret)), (HPf C M o, c, s))) := by
  unfold f_116_15 at h
  refine mv_E.rT (t := mt_116) rfl 1 (f' := (1, [some (.ref 15), some (.int p0)], [.int p0])) (h' := (HPf C M o, c, s)) rfl ?_
  by_cases hc803 : p0 < 0
  · replace h := (if_pos hc803).symm.trans h
    refine mv_E.go rfl (mi_if_pos hc803) ?_
    refine mv_E.rT (t := mt_116) rfl 1 (f' := (17, [some (.ref 15), some (.int p0)], [.int 0])) (h' := (HPf C M o, c, s)) rfl ?_
    cases h
    exact mv_E.done rfl mi_zret0
  replace h := (if_neg hc803).symm.trans h
  refine mv_E.go rfl (mi_if_neg hc803) ?_
  refine mv_E.rT (t := mt_116) rfl 3 (f' := (9, [some (.ref 15), some (.int p0)], [.int (C.1 14), .int p0])) (h' := (HPf C M o, c, s)) rfl ?_
  by_cases hc802 : (C.1 14) ≤ p0
  · replace h := (if_pos hc802).symm.trans h
    refine mv_E.go rfl (mi_icmp_pos hc802) ?_
    refine mv_E.rT (t := mt_116) rfl 1 (f' := (17, [some (.ref 15), some (.int p0)], [.int 0])) (h' := (HPf C M o, c, s)) rfl ?_
    cases h
    exact mv_E.done rfl mi_zret0
  replace h := (if_neg hc802).symm.trans h
  refine mv_E.go rfl (mi_icmp_neg hc802) ?_
  refine mv_E.rT (t := mt_116) rfl 2 (f' := (17, [some (.ref 15), some (.int p0)], [.int 1])) (h' := (HPf C M o, c, s)) rfl ?_
  cases h
  exact mv_E.done rfl mi_zret1
def f_118_15 (C : CS) (p0 : Int32) : Option (Int32) := (if (f_116_15 C p0) = 0 then some 0 else if mv_in p0 1024 = true then (f_117_15 C p0).bind fun r805 => some (((C.2 5) p0.toNatClampNeg) - r805) else none)
theorem t_118_15 (L : Nat) (xs : Nat → Int32) {C M : CS} {o : Nat → Int64} {c s : Nat} {p0 : Int32} {ret : Int32} (h : f_118_15 C p0 = some ret) : mv_E (mp L xs) 118 (0, [some (.ref 15), some (.int p0)], []) (HPf C M o, c, s) ((.inl (some (.int ret)), (HPf C M o, c, s))) := by
  unfold f_118_15 at h
  refine mv_E.rT (t := mt_118) rfl 2 (f' := (2, [some (.ref 15), some (.int p0)], [.int p0, .ref 15])) (h' := (HPf C M o, c, s)) rfl ?_
  refine mv_E.call (z := 116) (vs := [.ref 15, .int p0]) (f' := (5, [some (.ref 15), some (.int p0)], [])) (h' := (HPf C M o, c, s)) rfl rfl rfl (t_116_15 L xs rfl) (mv_okl rfl) ?_
  show mv_E (mp L xs) 118 (5, [some (.ref 15), some (.int p0)], [.int (f_116_15 C p0)]) (HPf C M o, c, s) _
  by_cases hc807 : (f_116_15 C p0) = 0
  · replace h := (if_pos hc807).symm.trans h
    refine mv_E.go rfl (mi_if_pos hc807) ?_
    refine mv_E.rT (t := mt_118) rfl 1 (f' := (24, [some (.ref 15), some (.int p0)], [.int 0])) (h' := (HPf C M o, c, s)) rfl ?_
    cases h
    exact mv_E.done rfl rfl
  replace h := (if_neg hc807).symm.trans h
  refine mv_E.go rfl (mi_if_neg hc807) ?_
  refine mv_E.rT (t := mt_118) rfl 3 (f' := (13, [some (.ref 15), some (.int p0)], [.int p0, .ref 17])) (h' := (HPf C M o, c, s)) rfl ?_
  by_cases hb804 : mv_in p0 1024 = true
  rotate_left
  · cases (if_neg hb804).symm.trans h
  replace h := (if_pos hb804).symm.trans h
  refine mv_E.go rfl (mi_iald_at rfl hb804) ?_
  refine mv_E.rT (t := mt_118) rfl 2 (f' := (16, [some (.ref 15), some (.int p0)], [.int p0, .ref 15, .int ((C.2 5) p0.toNatClampNeg)])) (h' := (HPf C M o, c, s)) rfl ?_
  obtain ⟨r805, hr806, h⟩ := Option.bind_eq_some_iff.mp h
  refine mv_E.call (z := 117) (vs := [.ref 15, .int p0]) (f' := (19, [some (.ref 15), some (.int p0)], [.int ((C.2 5) p0.toNatClampNeg)])) (h' := (HPf C M o, c, s)) rfl rfl rfl (t_117_15 L xs hr806) (mv_okl rfl) ?_
  refine mv_E.rT (t := mt_118) rfl 2 (f' := (24, [some (.ref 15), some (.int p0)], [.int (((C.2 5) p0.toNatClampNeg) - r805)])) (h' := (HPf C M o, c, s)) rfl ?_
  cases h
  exact mv_E.done rfl rfl
def f_131_15 (C : CS) (p0 : Int32) (p1 : Int32) : Option (Int32) := (if p1 < 0 then some (-1) else (f_118_15 C p0).bind fun r810 => (if r810 ≤ p1 then some (-1) else (f_117_15 C p0).bind fun r812 => if mv_in (r812 + p1) 8192 = true then some ((C.2 4) (r812 + p1).toNatClampNeg) else none))
theorem t_131_15 (L : Nat) (xs : Nat → Int32) {C M : CS} {o : Nat → Int64} {c s : Nat} {p0 : Int32} {p1 : Int32} {ret : Int32} (h : f_131_15 C p0 p1 = some ret) : mv_E (mp L xs) 131 (0, [some (.ref 15), some (.int p0), some (.int p1)], []) (HPf C M o, c, s) ((.inl (some (.int ret)), (HPf C M o, c, s))) := by
  unfold f_131_15 at h
  refine mv_E.rT (t := mt_131) rfl 1 (f' := (1, [some (.ref 15), some (.int p0), some (.int p1)], [.int p1])) (h' := (HPf C M o, c, s)) rfl ?_
  by_cases hc816 : p1 < 0
  · replace h := (if_pos hc816).symm.trans h
    refine mv_E.go rfl (mi_if_pos hc816) ?_
    refine mv_E.rT (t := mt_131) rfl 1 (f' := (29, [some (.ref 15), some (.int p0), some (.int p1)], [.int (-1)])) (h' := (HPf C M o, c, s)) rfl ?_
    cases h
    exact mv_E.done rfl rfl
  replace h := (if_neg hc816).symm.trans h
  refine mv_E.go rfl (mi_if_neg hc816) ?_
  refine mv_E.rT (t := mt_131) rfl 3 (f' := (7, [some (.ref 15), some (.int p0), some (.int p1)], [.int p0, .ref 15, .int p1])) (h' := (HPf C M o, c, s)) rfl ?_
  obtain ⟨r810, hr811, h⟩ := Option.bind_eq_some_iff.mp h
  refine mv_E.call (z := 118) (vs := [.ref 15, .int p0]) (f' := (10, [some (.ref 15), some (.int p0), some (.int p1)], [.int p1])) (h' := (HPf C M o, c, s)) rfl rfl rfl (t_118_15 L xs hr811) (mv_okl rfl) ?_
  show mv_E (mp L xs) 131 (10, [some (.ref 15), some (.int p0), some (.int p1)], [.int r810, .int p1]) (HPf C M o, c, s) _
  by_cases hc815 : r810 ≤ p1
  · replace h := (if_pos hc815).symm.trans h
    refine mv_E.go rfl (mi_icmp_pos hc815) ?_
    refine mv_E.rT (t := mt_131) rfl 1 (f' := (29, [some (.ref 15), some (.int p0), some (.int p1)], [.int (-1)])) (h' := (HPf C M o, c, s)) rfl ?_
    cases h
    exact mv_E.done rfl rfl
  replace h := (if_neg hc815).symm.trans h
  refine mv_E.go rfl (mi_icmp_neg hc815) ?_
  refine mv_E.rT (t := mt_131) rfl 4 (f' := (19, [some (.ref 15), some (.int p0), some (.int p1)], [.int p0, .ref 15, .ref 16])) (h' := (HPf C M o, c, s)) rfl ?_
  obtain ⟨r812, hr813, h⟩ := Option.bind_eq_some_iff.mp h
  refine mv_E.call (z := 117) (vs := [.ref 15, .int p0]) (f' := (22, [some (.ref 15), some (.int p0), some (.int p1)], [.ref 16])) (h' := (HPf C M o, c, s)) rfl rfl rfl (t_117_15 L xs hr813) (mv_okl rfl) ?_
  refine mv_E.rT (t := mt_131) rfl 2 (f' := (24, [some (.ref 15), some (.int p0), some (.int p1)], [.int (r812 + p1), .ref 16])) (h' := (HPf C M o, c, s)) rfl ?_
  by_cases hb814 : mv_in (r812 + p1) 8192 = true
  rotate_left
  · cases (if_neg hb814).symm.trans h
  replace h := (if_pos hb814).symm.trans h
  refine mv_E.go rfl (mi_iald_at rfl hb814) ?_
  refine mv_E.rT (t := mt_131) rfl 1 (f' := (29, [some (.ref 15), some (.int p0), some (.int p1)], [.int ((C.2 4) (r812 + p1).toNatClampNeg)])) (h' := (HPf C M o, c, s)) rfl ?_
  cases h
  exact mv_E.done rfl rfl
def b_132_15 (C : CS) (l2 : Int32) (l3 : Int32) : Option ((Int32 ⊕ Nat) × CS) := (if ¬ (f_116_12 C l2) = 0 then (if l3 < (-1) then some (.inr 2, C) else (f_118_12 C l2).bind fun r775 => (if l3 < r775 then (if ¬ l3 = (-1) then (f_131_12 C l2 l3).bind fun r784 => some (.inl r784, C) else (f_118_12 C l2).bind fun r786 => some (.inl r786, C)) else some (.inr 2, C))) else some (.inr 2, C))
theorem tb_132_15 (L : Nat) (xs : Nat → Int32) (M : CS) (o : Nat → Int64) (c s : Nat) (C : CS) (l2 : Int32) (l3 : Int32) (d1 : Option Int32) (d4 : Option Int32) (ret : (Int32 ⊕ Nat) × CS) (h : b_132_15 C l2 l3 = some ret) : mv_E (mp L xs) 132 (15, [some (.ref 0), d1.map .int, some (.int l2), some (.int l3), d4.map .int], [.ref 12]) (HPf C M o, c, s) (cvI M o c s ret) := by
  unfold b_132_15 at h
  refine mv_E.rT (t := mt_132) rfl 3 (f' := (20, [some (.ref 0), d1.map .int, some (.int l2), some (.int l3), some (.ref 12)], [.int l2, .ref 12])) (h' := (HPf C M o, c, s)) rfl ?_
  refine mv_E.call (z := 116) (vs := [.ref 12, .int l2]) (f' := (23, [some (.ref 0), d1.map .int, some (.int l2), some (.int l3), some (.ref 12)], [])) (h' := (HPf C M o, c, s)) rfl rfl rfl (t_116_12 L xs rfl) (mv_okl rfl) ?_
  show mv_E (mp L xs) 132 (23, [some (.ref 0), d1.map .int, some (.int l2), some (.int l3), some (.ref 12)], [.int (f_116_12 C l2)]) (HPf C M o, c, s) _
  by_cases hc801 : ¬ (f_116_12 C l2) = 0
  · replace h := (if_pos hc801).symm.trans h
    refine mv_E.go rfl (mi_if_pos hc801) ?_
    refine mv_E.rT (t := mt_132) rfl 2 (f' := (38, [some (.ref 0), d1.map .int, some (.int l2), some (.int l3), some (.ref 12)], [.int (-1), .int l3])) (h' := (HPf C M o, c, s)) rfl ?_
    by_cases hc800 : l3 < (-1)
    · replace h := (if_pos hc800).symm.trans h
      refine mv_E.go rfl (mi_icmp_pos hc800) ?_
      show mv_E (mp L xs) 132 (51, [some (.ref 0), d1.map .int, some (.int l2), some (.int l3), some (.ref 12)], []) (HPf C M o, c, s) _
      cases h
      exact mv_E.done rfl rfl
    replace h := (if_neg hc800).symm.trans h
    refine mv_E.go rfl (mi_icmp_neg hc800) ?_
    refine mv_E.rT (t := mt_132) rfl 3 (f' := (45, [some (.ref 0), d1.map .int, some (.int l2), some (.int l3), some (.ref 12)], [.int l2, .ref 12, .int l3])) (h' := (HPf C M o, c, s)) rfl ?_
    obtain ⟨r792, hr793, h⟩ := Option.bind_eq_some_iff.mp h
    refine mv_E.call (z := 118) (vs := [.ref 12, .int l2]) (f' := (48, [some (.ref 0), d1.map .int, some (.int l2), some (.int l3), some (.ref 12)], [.int l3])) (h' := (HPf C M o, c, s)) rfl rfl rfl (t_118_12 L xs hr793) (mv_okl rfl) ?_
    show mv_E (mp L xs) 132 (48, [some (.ref 0), d1.map .int, some (.int l2), some (.int l3), some (.ref 12)], [.int r792, .int l3]) (HPf C M o, c, s) _
    by_cases hc799 : l3 < r792
    · replace h := (if_pos hc799).symm.trans h
      refine mv_E.go rfl (mi_icmp_pos hc799) ?_
      refine mv_E.rT (t := mt_132) rfl 2 (f' := (63, [some (.ref 0), d1.map .int, some (.int l2), some (.int l3), some (.ref 12)], [.int (-1), .int l3])) (h' := (HPf C M o, c, s)) rfl ?_
      by_cases hc798 : ¬ l3 = (-1)
      · replace h := (if_pos hc798).symm.trans h
        refine mv_E.go rfl (mi_icmp_pos hc798) ?_
        refine mv_E.rT (t := mt_132) rfl 3 (f' := (79, [some (.ref 0), d1.map .int, some (.int l2), some (.int l3), some (.ref 12)], [.int l3, .int l2, .ref 12])) (h' := (HPf C M o, c, s)) rfl ?_
        obtain ⟨r794, hr795, h⟩ := Option.bind_eq_some_iff.mp h
        refine mv_E.call (z := 131) (vs := [.ref 12, .int l2, .int l3]) (f' := (82, [some (.ref 0), d1.map .int, some (.int l2), some (.int l3), some (.ref 12)], [])) (h' := (HPf C M o, c, s)) rfl rfl rfl (t_131_12 L xs hr795) (mv_okl rfl) ?_
        show mv_E (mp L xs) 132 (82, [some (.ref 0), d1.map .int, some (.int l2), some (.int l3), some (.ref 12)], [.int r794]) (HPf C M o, c, s) _
        cases h
        exact mv_E.done rfl rfl
      replace h := (if_neg hc798).symm.trans h
      refine mv_E.go rfl (mi_icmp_neg hc798) ?_
      refine mv_E.rT (t := mt_132) rfl 2 (f' := (69, [some (.ref 0), d1.map .int, some (.int l2), some (.int l3), some (.ref 12)], [.int l2, .ref 12])) (h' := (HPf C M o, c, s)) rfl ?_
      obtain ⟨r796, hr797, h⟩ := Option.bind_eq_some_iff.mp h
      refine mv_E.call (z := 118) (vs := [.ref 12, .int l2]) (f' := (72, [some (.ref 0), d1.map .int, some (.int l2), some (.int l3), some (.ref 12)], [])) (h' := (HPf C M o, c, s)) rfl rfl rfl (t_118_12 L xs hr797) (mv_okl rfl) ?_
      refine mv_E.rT (t := mt_132) rfl 1 (f' := (82, [some (.ref 0), d1.map .int, some (.int l2), some (.int l3), some (.ref 12)], [.int r796])) (h' := (HPf C M o, c, s)) rfl ?_
      cases h
      exact mv_E.done rfl rfl
    replace h := (if_neg hc799).symm.trans h
    refine mv_E.go rfl (mi_icmp_neg hc799) ?_
    show mv_E (mp L xs) 132 (51, [some (.ref 0), d1.map .int, some (.int l2), some (.int l3), some (.ref 12)], []) (HPf C M o, c, s) _
    cases h
    exact mv_E.done rfl rfl
  replace h := (if_neg hc801).symm.trans h
  refine mv_E.go rfl (mi_if_neg hc801) ?_
  show mv_E (mp L xs) 132 (26, [some (.ref 0), d1.map .int, some (.int l2), some (.int l3), some (.ref 12)], []) (HPf C M o, c, s) _
  cases h
  exact mv_E.done rfl rfl
def b_132_15_1 (C : CS) (l2 : Int32) (l3 : Int32) : Option ((Int32 ⊕ Nat) × CS) := (if ¬ (f_116_15 C l2) = 0 then (if l3 < (-1) then some (.inr 2, C) else (f_118_15 C l2).bind fun r808 => (if l3 < r808 then (if ¬ l3 = (-1) then (f_131_15 C l2 l3).bind fun r817 => some (.inl r817, C) else (f_118_15 C l2).bind fun r819 => some (.inl r819, C)) else some (.inr 2, C))) else some (.inr 2, C))
theorem tb_132_15_1 (L : Nat) (xs : Nat → Int32) (M : CS) (o : Nat → Int64) (c s : Nat) (C : CS) (l2 : Int32) (l3 : Int32) (d1 : Option Int32) (d4 : Option Int32) (ret : (Int32 ⊕ Nat) × CS) (h : b_132_15_1 C l2 l3 = some ret) : mv_E (mp L xs) 132 (15, [some (.ref 0), d1.map .int, some (.int l2), some (.int l3), d4.map .int], [.ref 15]) (HPf C M o, c, s) (cvI M o c s ret) := by
  unfold b_132_15_1 at h
  refine mv_E.rT (t := mt_132) rfl 3 (f' := (20, [some (.ref 0), d1.map .int, some (.int l2), some (.int l3), some (.ref 15)], [.int l2, .ref 15])) (h' := (HPf C M o, c, s)) rfl ?_
  refine mv_E.call (z := 116) (vs := [.ref 15, .int l2]) (f' := (23, [some (.ref 0), d1.map .int, some (.int l2), some (.int l3), some (.ref 15)], [])) (h' := (HPf C M o, c, s)) rfl rfl rfl (t_116_15 L xs rfl) (mv_okl rfl) ?_
  show mv_E (mp L xs) 132 (23, [some (.ref 0), d1.map .int, some (.int l2), some (.int l3), some (.ref 15)], [.int (f_116_15 C l2)]) (HPf C M o, c, s) _
  by_cases hc834 : ¬ (f_116_15 C l2) = 0
  · replace h := (if_pos hc834).symm.trans h
    refine mv_E.go rfl (mi_if_pos hc834) ?_
    refine mv_E.rT (t := mt_132) rfl 2 (f' := (38, [some (.ref 0), d1.map .int, some (.int l2), some (.int l3), some (.ref 15)], [.int (-1), .int l3])) (h' := (HPf C M o, c, s)) rfl ?_
    by_cases hc833 : l3 < (-1)
    · replace h := (if_pos hc833).symm.trans h
      refine mv_E.go rfl (mi_icmp_pos hc833) ?_
      show mv_E (mp L xs) 132 (51, [some (.ref 0), d1.map .int, some (.int l2), some (.int l3), some (.ref 15)], []) (HPf C M o, c, s) _
      cases h
      exact mv_E.done rfl rfl
    replace h := (if_neg hc833).symm.trans h
    refine mv_E.go rfl (mi_icmp_neg hc833) ?_
    refine mv_E.rT (t := mt_132) rfl 3 (f' := (45, [some (.ref 0), d1.map .int, some (.int l2), some (.int l3), some (.ref 15)], [.int l2, .ref 15, .int l3])) (h' := (HPf C M o, c, s)) rfl ?_
    obtain ⟨r825, hr826, h⟩ := Option.bind_eq_some_iff.mp h
    refine mv_E.call (z := 118) (vs := [.ref 15, .int l2]) (f' := (48, [some (.ref 0), d1.map .int, some (.int l2), some (.int l3), some (.ref 15)], [.int l3])) (h' := (HPf C M o, c, s)) rfl rfl rfl (t_118_15 L xs hr826) (mv_okl rfl) ?_
    show mv_E (mp L xs) 132 (48, [some (.ref 0), d1.map .int, some (.int l2), some (.int l3), some (.ref 15)], [.int r825, .int l3]) (HPf C M o, c, s) _
    by_cases hc832 : l3 < r825
    · replace h := (if_pos hc832).symm.trans h
      refine mv_E.go rfl (mi_icmp_pos hc832) ?_
      refine mv_E.rT (t := mt_132) rfl 2 (f' := (63, [some (.ref 0), d1.map .int, some (.int l2), some (.int l3), some (.ref 15)], [.int (-1), .int l3])) (h' := (HPf C M o, c, s)) rfl ?_
      by_cases hc831 : ¬ l3 = (-1)
      · replace h := (if_pos hc831).symm.trans h
        refine mv_E.go rfl (mi_icmp_pos hc831) ?_
        refine mv_E.rT (t := mt_132) rfl 3 (f' := (79, [some (.ref 0), d1.map .int, some (.int l2), some (.int l3), some (.ref 15)], [.int l3, .int l2, .ref 15])) (h' := (HPf C M o, c, s)) rfl ?_
        obtain ⟨r827, hr828, h⟩ := Option.bind_eq_some_iff.mp h
        refine mv_E.call (z := 131) (vs := [.ref 15, .int l2, .int l3]) (f' := (82, [some (.ref 0), d1.map .int, some (.int l2), some (.int l3), some (.ref 15)], [])) (h' := (HPf C M o, c, s)) rfl rfl rfl (t_131_15 L xs hr828) (mv_okl rfl) ?_
        show mv_E (mp L xs) 132 (82, [some (.ref 0), d1.map .int, some (.int l2), some (.int l3), some (.ref 15)], [.int r827]) (HPf C M o, c, s) _
        cases h
        exact mv_E.done rfl rfl
      replace h := (if_neg hc831).symm.trans h
      refine mv_E.go rfl (mi_icmp_neg hc831) ?_
      refine mv_E.rT (t := mt_132) rfl 2 (f' := (69, [some (.ref 0), d1.map .int, some (.int l2), some (.int l3), some (.ref 15)], [.int l2, .ref 15])) (h' := (HPf C M o, c, s)) rfl ?_
      obtain ⟨r829, hr830, h⟩ := Option.bind_eq_some_iff.mp h
      refine mv_E.call (z := 118) (vs := [.ref 15, .int l2]) (f' := (72, [some (.ref 0), d1.map .int, some (.int l2), some (.int l3), some (.ref 15)], [])) (h' := (HPf C M o, c, s)) rfl rfl rfl (t_118_15 L xs hr830) (mv_okl rfl) ?_
      refine mv_E.rT (t := mt_132) rfl 1 (f' := (82, [some (.ref 0), d1.map .int, some (.int l2), some (.int l3), some (.ref 15)], [.int r829])) (h' := (HPf C M o, c, s)) rfl ?_
      cases h
      exact mv_E.done rfl rfl
    replace h := (if_neg hc832).symm.trans h
    refine mv_E.go rfl (mi_icmp_neg hc832) ?_
    show mv_E (mp L xs) 132 (51, [some (.ref 0), d1.map .int, some (.int l2), some (.int l3), some (.ref 15)], []) (HPf C M o, c, s) _
    cases h
    exact mv_E.done rfl rfl
  replace h := (if_neg hc834).symm.trans h
  refine mv_E.go rfl (mi_if_neg hc834) ?_
  show mv_E (mp L xs) 132 (26, [some (.ref 0), d1.map .int, some (.int l2), some (.int l3), some (.ref 15)], []) (HPf C M o, c, s) _
  cases h
  exact mv_E.done rfl rfl
def f_132 (C : CS) (p0 : Int32) (p1 : Int32) (p2 : Int32) : Option ((Int32 ⊕ Nat) × CS) := (if p0 = 0 then b_132_15 C p1 p2 else b_132_15_1 C p1 p2)
theorem t_132 (L : Nat) (xs : Nat → Int32) {C M : CS} {o : Nat → Int64} {c s : Nat} {p0 : Int32} {p1 : Int32} {p2 : Int32} {ret : (Int32 ⊕ Nat) × CS} (h : f_132 C p0 p1 p2 = some ret) : mv_E (mp L xs) 132 (0, [some (.ref 0), some (.int p0), some (.int p1), some (.int p2), none], []) (HPf C M o, c, s) (cvI M o c s ret) := by
  unfold f_132 at h
  refine mv_E.rT (t := mt_132) rfl 1 (f' := (1, [some (.ref 0), some (.int p0), some (.int p1), some (.int p2), none], [.int p0])) (h' := (HPf C M o, c, s)) rfl ?_
  by_cases hc835 : p0 = 0
  · replace h := (if_pos hc835).symm.trans h
    refine mv_E.go rfl (mi_if_pos hc835) ?_
    refine mv_E.rT (t := mt_132) rfl 2 (f' := (15, [some (.ref 0), some (.int p0), some (.int p1), some (.int p2), none], [.ref 12])) (h' := (HPf C M o, c, s)) rfl ?_
    exact tb_132_15 L xs M o c s C p1 p2 (some p0) none _ h
  replace h := (if_neg hc835).symm.trans h
  refine mv_E.go rfl (mi_if_neg hc835) ?_
  refine mv_E.rT (t := mt_132) rfl 3 (f' := (15, [some (.ref 0), some (.int p0), some (.int p1), some (.int p2), none], [.ref 15])) (h' := (HPf C M o, c, s)) rfl ?_
  exact tb_132_15_1 L xs M o c s C p1 p2 (some p0) none _ h
def b_22_18 (M : CS) (s0 : Int32) : Option (Int32 × CS) := (if s0 ≤ 0 then some (0, (ru (M.1) 0 (s0), M.2)) else some (1, (ru (M.1) 0 (s0), M.2)))
theorem tb_22_18 (L : Nat) (xs : Nat → Int32) (C : CS) (o : Nat → Int64) (c s : Nat) (M : CS) (s0 : Int32) (d1 : Option Int32) (d2 : Option Int32) (ret : Int32 × CS) (h : b_22_18 M s0 = some ret) : mv_E (mp L xs) 22 (18, [some (.ref 18), d1.map .int, d2.map .int], [.int s0, .ref 18]) (HPf C M o, c, s) ((.inl (some (.int ret.1)), (HPf C ret.2 o, c, s))) := by
  unfold b_22_18 at h
  refine mv_E.rT (t := mt_22) rfl 3 (f' := (25, [some (.ref 18), d1.map .int, d2.map .int], [.int s0])) (h' := (HPf C (ru (M.1) 0 (s0), M.2) o, c, s)) rfl ?_
  by_cases hc837 : s0 ≤ 0
  · replace h := (if_pos hc837).symm.trans h
    refine mv_E.go rfl (mi_if_pos hc837) ?_
    refine mv_E.rT (t := mt_22) rfl 1 (f' := (33, [some (.ref 18), d1.map .int, d2.map .int], [.int 0])) (h' := (HPf C (ru (M.1) 0 (s0), M.2) o, c, s)) rfl ?_
    cases h
    exact mv_E.done rfl mi_zret0
  replace h := (if_neg hc837).symm.trans h
  refine mv_E.go rfl (mi_if_neg hc837) ?_
  refine mv_E.rT (t := mt_22) rfl 2 (f' := (33, [some (.ref 18), d1.map .int, d2.map .int], [.int 1])) (h' := (HPf C (ru (M.1) 0 (s0), M.2) o, c, s)) rfl ?_
  cases h
  exact mv_E.done rfl mi_zret1
def f_22 (M : CS) (p0 : Int32) (p1 : Int32) : Option (Int32 × CS) := (if p0 = 0 then (if p1 = 0 then b_22_18 M 0 else b_22_18 M 2) else b_22_18 M 1)
theorem t_22 (L : Nat) (xs : Nat → Int32) {C M : CS} {o : Nat → Int64} {c s : Nat} {p0 : Int32} {p1 : Int32} {ret : Int32 × CS} (h : f_22 M p0 p1 = some ret) : mv_E (mp L xs) 22 (0, [some (.ref 18), some (.int p0), some (.int p1)], []) (HPf C M o, c, s) ((.inl (some (.int ret.1)), (HPf C ret.2 o, c, s))) := by
  unfold f_22 at h
  refine mv_E.rT (t := mt_22) rfl 2 (f' := (2, [some (.ref 18), some (.int p0), some (.int p1)], [.int p0, .ref 18])) (h' := (HPf C M o, c, s)) rfl ?_
  by_cases hc839 : p0 = 0
  · replace h := (if_pos hc839).symm.trans h
    refine mv_E.go rfl (mi_if_pos hc839) ?_
    refine mv_E.rT (t := mt_22) rfl 1 (f' := (10, [some (.ref 18), some (.int p0), some (.int p1)], [.int p1, .ref 18])) (h' := (HPf C M o, c, s)) rfl ?_
    by_cases hc838 : p1 = 0
    · replace h := (if_pos hc838).symm.trans h
      refine mv_E.go rfl (mi_if_pos hc838) ?_
      refine mv_E.rT (t := mt_22) rfl 1 (f' := (18, [some (.ref 18), some (.int p0), some (.int p1)], [.int 0, .ref 18])) (h' := (HPf C M o, c, s)) rfl ?_
      exact tb_22_18 L xs C o c s M 0 (some p0) (some p1) _ h
    replace h := (if_neg hc838).symm.trans h
    refine mv_E.go rfl (mi_if_neg hc838) ?_
    refine mv_E.rT (t := mt_22) rfl 2 (f' := (18, [some (.ref 18), some (.int p0), some (.int p1)], [.int 2, .ref 18])) (h' := (HPf C M o, c, s)) rfl ?_
    exact tb_22_18 L xs C o c s M 2 (some p0) (some p1) _ h
  replace h := (if_neg hc839).symm.trans h
  refine mv_E.go rfl (mi_if_neg hc839) ?_
  refine mv_E.rT (t := mt_22) rfl 2 (f' := (18, [some (.ref 18), some (.int p0), some (.int p1)], [.int 1, .ref 18])) (h' := (HPf C M o, c, s)) rfl ?_
  exact tb_22_18 L xs C o c s M 1 (some p0) (some p1) _ h
def b_23_63 : Nat → CS → Int64 → Int32 → Option (Int32 × CS)
  | 0, _, _, _ => none
  | n + 1, M, l1, l5 => (if l5 < 0 then some (M.1 1, M) else if mv_in (M.1 1) 2000 = true then (b_23_63 n) (ru (M.1) 1 (((M.1 1) + 1)), ru (M.2) 0 (upd (M.2 0) (M.1 1).toNatClampNeg (Int64.toInt32 ((lsr l1 (8 * l5)) &&& 255)))) l1 (l5 + (-1)) else none)
theorem tb_23_63 (L : Nat) (xs : Nat → Int32) (C : CS) (o : Nat → Int64) (c s : Nat) : ∀ (n : Nat) (M : CS) (l1 : Int64) (l5 : Int32) (d3 : Option Int32) (d4 : Option Int32) (ret : Int32 × CS), b_23_63 n M l1 l5 = some ret → mv_E (mp L xs) 23 (63, [some (.ref 18), some (.long l1), none, d3.map .int, d4.map .int, some (.int l5)], []) (HPf C M o, c, s) ((.inl (some (.int ret.1)), (HPf C ret.2 o, c, s))) := by
  intro n
  induction n with
  | zero => intro M l1 l5 d3 d4 ret h; rw [b_23_63] at h; cases h
  | succ n ih =>
    intro M l1 l5 d3 d4 ret h
    rw [b_23_63] at h
    rcases d4 with _ | d4
    · refine mv_E.rT (t := mt_23) rfl 1 (f' := (65, [some (.ref 18), some (.long l1), none, d3.map .int, none, some (.int l5)], [.int l5])) (h' := (HPf C M o, c, s)) rfl ?_
      by_cases hc845 : l5 < 0
      · replace h := (if_pos hc845).symm.trans h
        refine mv_E.go rfl (mi_if_pos hc845) ?_
        refine mv_E.rT (t := mt_23) rfl 2 (f' := (109, [some (.ref 18), some (.long l1), none, d3.map .int, none, some (.int l5)], [.int (M.1 1)])) (h' := (HPf C M o, c, s)) rfl ?_
        cases h
        exact mv_E.done rfl rfl
      replace h := (if_neg hc845).symm.trans h
      refine mv_E.go rfl (mi_if_neg hc845) ?_
      refine mv_E.rT (t := mt_23) rfl 12 (f' := (88, [some (.ref 18), some (.long l1), none, d3.map .int, none, some (.int l5)], [.int (Int64.toInt32 ((lsr l1 (8 * l5)) &&& 255)), .int (M.1 1), .ref 19])) (h' := (HPf C M o, c, s)) rfl ?_
      by_cases hb844 : mv_in (M.1 1) 2000 = true
      rotate_left
      · cases (if_neg hb844).symm.trans h
      replace h := (if_pos hb844).symm.trans h
      refine mv_E.go rfl (mi_iast_at rfl hb844) ?_
      refine mv_E.rT (t := mt_23) rfl 8 (f' := (63, [some (.ref 18), some (.long l1), none, d3.map .int, none, some (.int (l5 + (-1)))], [])) (h' := (HPf C (ru (M.1) 1 (((M.1 1) + 1)), ru (M.2) 0 (upd (M.2 0) (M.1 1).toNatClampNeg (Int64.toInt32 ((lsr l1 (8 * l5)) &&& 255)))) o, c, s)) rfl ?_
      exact ih (ru (M.1) 1 (((M.1 1) + 1)), ru (M.2) 0 (upd (M.2 0) (M.1 1).toNatClampNeg (Int64.toInt32 ((lsr l1 (8 * l5)) &&& 255)))) l1 (l5 + (-1)) d3 none _ h
    · refine mv_E.rT (t := mt_23) rfl 1 (f' := (65, [some (.ref 18), some (.long l1), none, d3.map .int, some (.int d4), some (.int l5)], [.int l5])) (h' := (HPf C M o, c, s)) rfl ?_
      by_cases hc847 : l5 < 0
      · replace h := (if_pos hc847).symm.trans h
        refine mv_E.go rfl (mi_if_pos hc847) ?_
        refine mv_E.rT (t := mt_23) rfl 2 (f' := (109, [some (.ref 18), some (.long l1), none, d3.map .int, some (.int d4), some (.int l5)], [.int (M.1 1)])) (h' := (HPf C M o, c, s)) rfl ?_
        cases h
        exact mv_E.done rfl rfl
      replace h := (if_neg hc847).symm.trans h
      refine mv_E.go rfl (mi_if_neg hc847) ?_
      refine mv_E.rT (t := mt_23) rfl 12 (f' := (88, [some (.ref 18), some (.long l1), none, d3.map .int, some (.int d4), some (.int l5)], [.int (Int64.toInt32 ((lsr l1 (8 * l5)) &&& 255)), .int (M.1 1), .ref 19])) (h' := (HPf C M o, c, s)) rfl ?_
      by_cases hb846 : mv_in (M.1 1) 2000 = true
      rotate_left
      · cases (if_neg hb846).symm.trans h
      replace h := (if_pos hb846).symm.trans h
      refine mv_E.go rfl (mi_iast_at rfl hb846) ?_
      refine mv_E.rT (t := mt_23) rfl 8 (f' := (63, [some (.ref 18), some (.long l1), none, d3.map .int, some (.int d4), some (.int (l5 + (-1)))], [])) (h' := (HPf C (ru (M.1) 1 (((M.1 1) + 1)), ru (M.2) 0 (upd (M.2 0) (M.1 1).toNatClampNeg (Int64.toInt32 ((lsr l1 (8 * l5)) &&& 255)))) o, c, s)) rfl ?_
      exact ih (ru (M.1) 1 (((M.1 1) + 1)), ru (M.2) 0 (upd (M.2 0) (M.1 1).toNatClampNeg (Int64.toInt32 ((lsr l1 (8 * l5)) &&& 255)))) l1 (l5 + (-1)) d3 (some d4) _ h
def b_23_50 (M : CS) (l1 : Int64) (l3 : Int32) (s0 : Int32) (s1 : Int32) : Option (Int32 × CS) := (f_22 M s1 s0).bind fun r840 => (if r840.1 = 0 then b_23_63 fu r840.2 l1 (l3 - 1) else some (0, r840.2))
theorem tb_23_50 (L : Nat) (xs : Nat → Int32) (C : CS) (o : Nat → Int64) (c s : Nat) (M : CS) (l1 : Int64) (l3 : Int32) (s0 : Int32) (s1 : Int32) (d4 : Option Int32) (d5 : Option Int32) (ret : Int32 × CS) (h : b_23_50 M l1 l3 s0 s1 = some ret) : mv_E (mp L xs) 23 (50, [some (.ref 18), some (.long l1), none, some (.int l3), d4.map .int, d5.map .int], [.int s0, .int s1, .ref 18]) (HPf C M o, c, s) ((.inl (some (.int ret.1)), (HPf C ret.2 o, c, s))) := by
  unfold b_23_50 at h
  rcases d4 with _ | d4
  · show mv_E (mp L xs) 23 (50, [some (.ref 18), some (.long l1), none, some (.int l3), none, d5.map .int], [.int s0, .int s1, .ref 18]) (HPf C M o, c, s) _
    obtain ⟨r849, hr850, h⟩ := Option.bind_eq_some_iff.mp h
    refine mv_E.call (z := 22) (vs := [.ref 18, .int s1, .int s0]) (f' := (53, [some (.ref 18), some (.long l1), none, some (.int l3), none, d5.map .int], [])) (h' := (HPf C M o, c, s)) rfl rfl rfl (t_22 L xs hr850) (mv_okl rfl) ?_
    show mv_E (mp L xs) 23 (53, [some (.ref 18), some (.long l1), none, some (.int l3), none, d5.map .int], [.int r849.1]) (HPf C r849.2 o, c, s) _
    by_cases hc851 : r849.1 = 0
    · replace h := (if_pos hc851).symm.trans h
      refine mv_E.go rfl (mi_if_pos hc851) ?_
      refine mv_E.rT (t := mt_23) rfl 4 (f' := (63, [some (.ref 18), some (.long l1), none, some (.int l3), none, some (.int (l3 - 1))], [])) (h' := (HPf C r849.2 o, c, s)) rfl ?_
      exact tb_23_63 L xs C o c s fu r849.2 l1 (l3 - 1) (some l3) none _ h
    replace h := (if_neg hc851).symm.trans h
    refine mv_E.go rfl (mi_if_neg hc851) ?_
    refine mv_E.rT (t := mt_23) rfl 1 (f' := (57, [some (.ref 18), some (.long l1), none, some (.int l3), none, d5.map .int], [.int 0])) (h' := (HPf C r849.2 o, c, s)) rfl ?_
    cases h
    exact mv_E.done rfl rfl
  · show mv_E (mp L xs) 23 (50, [some (.ref 18), some (.long l1), none, some (.int l3), some (.int d4), d5.map .int], [.int s0, .int s1, .ref 18]) (HPf C M o, c, s) _
    obtain ⟨r852, hr853, h⟩ := Option.bind_eq_some_iff.mp h
    refine mv_E.call (z := 22) (vs := [.ref 18, .int s1, .int s0]) (f' := (53, [some (.ref 18), some (.long l1), none, some (.int l3), some (.int d4), d5.map .int], [])) (h' := (HPf C M o, c, s)) rfl rfl rfl (t_22 L xs hr853) (mv_okl rfl) ?_
    show mv_E (mp L xs) 23 (53, [some (.ref 18), some (.long l1), none, some (.int l3), some (.int d4), d5.map .int], [.int r852.1]) (HPf C r852.2 o, c, s) _
    by_cases hc854 : r852.1 = 0
    · replace h := (if_pos hc854).symm.trans h
      refine mv_E.go rfl (mi_if_pos hc854) ?_
      refine mv_E.rT (t := mt_23) rfl 4 (f' := (63, [some (.ref 18), some (.long l1), none, some (.int l3), some (.int d4), some (.int (l3 - 1))], [])) (h' := (HPf C r852.2 o, c, s)) rfl ?_
      exact tb_23_63 L xs C o c s fu r852.2 l1 (l3 - 1) (some l3) (some d4) _ h
    replace h := (if_neg hc854).symm.trans h
    refine mv_E.go rfl (mi_if_neg hc854) ?_
    refine mv_E.rT (t := mt_23) rfl 1 (f' := (57, [some (.ref 18), some (.long l1), none, some (.int l3), some (.int d4), d5.map .int], [.int 0])) (h' := (HPf C r852.2 o, c, s)) rfl ?_
    cases h
    exact mv_E.done rfl rfl
def b_23_49 (M : CS) (l1 : Int64) (l3 : Int32) (s0 : Int32) : Option (Int32 × CS) := b_23_50 M l1 l3 0 s0
theorem tb_23_49 (L : Nat) (xs : Nat → Int32) (C : CS) (o : Nat → Int64) (c s : Nat) (M : CS) (l1 : Int64) (l3 : Int32) (s0 : Int32) (d4 : Option Int32) (d5 : Option Int32) (ret : Int32 × CS) (h : b_23_49 M l1 l3 s0 = some ret) : mv_E (mp L xs) 23 (49, [some (.ref 18), some (.long l1), none, some (.int l3), d4.map .int, d5.map .int], [.int s0, .ref 18]) (HPf C M o, c, s) ((.inl (some (.int ret.1)), (HPf C ret.2 o, c, s))) := by
  unfold b_23_49 at h
  refine mv_E.rT (t := mt_23) rfl 1 (f' := (50, [some (.ref 18), some (.long l1), none, some (.int l3), d4.map .int, d5.map .int], [.int 0, .int s0, .ref 18])) (h' := (HPf C M o, c, s)) rfl ?_
  exact tb_23_50 L xs C o c s M l1 l3 0 s0 d4 d5 _ h
def b_23_45 (M : CS) (l1 : Int64) (l3 : Int32) (s0 : Int32) : Option (Int32 × CS) := b_23_50 M l1 l3 1 s0
theorem tb_23_45 (L : Nat) (xs : Nat → Int32) (C : CS) (o : Nat → Int64) (c s : Nat) (M : CS) (l1 : Int64) (l3 : Int32) (s0 : Int32) (d4 : Option Int32) (d5 : Option Int32) (ret : Int32 × CS) (h : b_23_45 M l1 l3 s0 = some ret) : mv_E (mp L xs) 23 (45, [some (.ref 18), some (.long l1), none, some (.int l3), d4.map .int, d5.map .int], [.int s0, .ref 18]) (HPf C M o, c, s) ((.inl (some (.int ret.1)), (HPf C ret.2 o, c, s))) := by
  unfold b_23_45 at h
  refine mv_E.rT (t := mt_23) rfl 2 (f' := (50, [some (.ref 18), some (.long l1), none, some (.int l3), d4.map .int, d5.map .int], [.int 1, .int s0, .ref 18])) (h' := (HPf C M o, c, s)) rfl ?_
  exact tb_23_50 L xs C o c s M l1 l3 1 s0 d4 d5 _ h
def b_23_16 (M : CS) (l1 : Int64) (l3 : Int32) (s0 : Int32) : Option (Int32 × CS) := (if ¬ s0 = 0 then b_23_49 M l1 l3 s0 else (if ¬ (M.1 2) = 0 then b_23_45 M l1 l3 s0 else (if ((M.1 1) + l3) ≤ 2000 then b_23_49 M l1 l3 s0 else b_23_45 M l1 l3 s0)))
theorem tb_23_16 (L : Nat) (xs : Nat → Int32) (C : CS) (o : Nat → Int64) (c s : Nat) (M : CS) (l1 : Int64) (l3 : Int32) (s0 : Int32) (d4 : Option Int32) (d5 : Option Int32) (ret : Int32 × CS) (h : b_23_16 M l1 l3 s0 = some ret) : mv_E (mp L xs) 23 (16, [some (.ref 18), some (.long l1), none, some (.int l3), d4.map .int, d5.map .int], [.int s0]) (HPf C M o, c, s) ((.inl (some (.int ret.1)), (HPf C ret.2 o, c, s))) := by
  unfold b_23_16 at h
  refine mv_E.rT (t := mt_23) rfl 4 (f' := (23, [some (.ref 18), some (.long l1), none, some (.int l3), some (.int s0), d5.map .int], [.int s0, .int s0, .ref 18])) (h' := (HPf C M o, c, s)) rfl ?_
  by_cases hc860 : ¬ s0 = 0
  · replace h := (if_pos hc860).symm.trans h
    refine mv_E.go rfl (mi_if_pos hc860) ?_
    show mv_E (mp L xs) 23 (49, [some (.ref 18), some (.long l1), none, some (.int l3), some (.int s0), d5.map .int], [.int s0, .ref 18]) (HPf C M o, c, s) _
    exact tb_23_49 L xs C o c s M l1 l3 s0 (some s0) d5 _ h
  replace h := (if_neg hc860).symm.trans h
  refine mv_E.go rfl (mi_if_neg hc860) ?_
  refine mv_E.rT (t := mt_23) rfl 2 (f' := (30, [some (.ref 18), some (.long l1), none, some (.int l3), some (.int s0), d5.map .int], [.int (M.1 2), .int s0, .ref 18])) (h' := (HPf C M o, c, s)) rfl ?_
  by_cases hc859 : ¬ (M.1 2) = 0
  · replace h := (if_pos hc859).symm.trans h
    refine mv_E.go rfl (mi_if_pos hc859) ?_
    show mv_E (mp L xs) 23 (45, [some (.ref 18), some (.long l1), none, some (.int l3), some (.int s0), d5.map .int], [.int s0, .ref 18]) (HPf C M o, c, s) _
    exact tb_23_45 L xs C o c s M l1 l3 s0 (some s0) d5 _ h
  replace h := (if_neg hc859).symm.trans h
  refine mv_E.go rfl (mi_if_neg hc859) ?_
  refine mv_E.rT (t := mt_23) rfl 5 (f' := (42, [some (.ref 18), some (.long l1), none, some (.int l3), some (.int s0), d5.map .int], [.int 2000, .int ((M.1 1) + l3), .int s0, .ref 18])) (h' := (HPf C M o, c, s)) rfl ?_
  by_cases hc858 : ((M.1 1) + l3) ≤ 2000
  · replace h := (if_pos hc858).symm.trans h
    refine mv_E.go rfl (mi_icmp_pos hc858) ?_
    show mv_E (mp L xs) 23 (49, [some (.ref 18), some (.long l1), none, some (.int l3), some (.int s0), d5.map .int], [.int s0, .ref 18]) (HPf C M o, c, s) _
    exact tb_23_49 L xs C o c s M l1 l3 s0 (some s0) d5 _ h
  replace h := (if_neg hc858).symm.trans h
  refine mv_E.go rfl (mi_icmp_neg hc858) ?_
  show mv_E (mp L xs) 23 (45, [some (.ref 18), some (.long l1), none, some (.int l3), some (.int s0), d5.map .int], [.int s0, .ref 18]) (HPf C M o, c, s) _
  exact tb_23_45 L xs C o c s M l1 l3 s0 (some s0) d5 _ h
def b_23_11 (M : CS) (l1 : Int64) (l3 : Int32) : Option (Int32 × CS) := b_23_16 M l1 l3 1
theorem tb_23_11 (L : Nat) (xs : Nat → Int32) (C : CS) (o : Nat → Int64) (c s : Nat) (M : CS) (l1 : Int64) (l3 : Int32) (d4 : Option Int32) (d5 : Option Int32) (ret : Int32 × CS) (h : b_23_11 M l1 l3 = some ret) : mv_E (mp L xs) 23 (11, [some (.ref 18), some (.long l1), none, some (.int l3), d4.map .int, d5.map .int], []) (HPf C M o, c, s) ((.inl (some (.int ret.1)), (HPf C ret.2 o, c, s))) := by
  unfold b_23_11 at h
  refine mv_E.rT (t := mt_23) rfl 2 (f' := (16, [some (.ref 18), some (.long l1), none, some (.int l3), d4.map .int, d5.map .int], [.int 1])) (h' := (HPf C M o, c, s)) rfl ?_
  exact tb_23_16 L xs C o c s M l1 l3 1 d4 d5 _ h
def f_23 (M : CS) (p0 : Int64) (p1 : Int32) : Option (Int32 × CS) := (if p1 < 1 then b_23_11 M p0 p1 else (if p1 ≤ 8 then b_23_16 M p0 p1 0 else b_23_11 M p0 p1))
theorem t_23 (L : Nat) (xs : Nat → Int32) {C M : CS} {o : Nat → Int64} {c s : Nat} {p0 : Int64} {p1 : Int32} {ret : Int32 × CS} (h : f_23 M p0 p1 = some ret) : mv_E (mp L xs) 23 (0, [some (.ref 18), some (.long p0), none, some (.int p1), none, none], []) (HPf C M o, c, s) ((.inl (some (.int ret.1)), (HPf C ret.2 o, c, s))) := by
  unfold f_23 at h
  refine mv_E.rT (t := mt_23) rfl 2 (f' := (2, [some (.ref 18), some (.long p0), none, some (.int p1), none, none], [.int 1, .int p1])) (h' := (HPf C M o, c, s)) rfl ?_
  by_cases hc862 : p1 < 1
  · replace h := (if_pos hc862).symm.trans h
    refine mv_E.go rfl (mi_icmp_pos hc862) ?_
    show mv_E (mp L xs) 23 (11, [some (.ref 18), some (.long p0), none, some (.int p1), none, none], []) (HPf C M o, c, s) _
    exact tb_23_11 L xs C o c s M p0 p1 none none _ h
  replace h := (if_neg hc862).symm.trans h
  refine mv_E.go rfl (mi_icmp_neg hc862) ?_
  refine mv_E.rT (t := mt_23) rfl 2 (f' := (8, [some (.ref 18), some (.long p0), none, some (.int p1), none, none], [.int 8, .int p1])) (h' := (HPf C M o, c, s)) rfl ?_
  by_cases hc861 : p1 ≤ 8
  · replace h := (if_pos hc861).symm.trans h
    refine mv_E.go rfl (mi_icmp_pos hc861) ?_
    refine mv_E.rT (t := mt_23) rfl 1 (f' := (16, [some (.ref 18), some (.long p0), none, some (.int p1), none, none], [.int 0])) (h' := (HPf C M o, c, s)) rfl ?_
    exact tb_23_16 L xs C o c s M p0 p1 0 none none _ h
  replace h := (if_neg hc861).symm.trans h
  refine mv_E.go rfl (mi_icmp_neg hc861) ?_
  show mv_E (mp L xs) 23 (11, [some (.ref 18), some (.long p0), none, some (.int p1), none, none], []) (HPf C M o, c, s) _
  exact tb_23_11 L xs C o c s M p0 p1 none none _ h
def f_24 (M : CS) : Int32 := M.1 0
theorem t_24 (L : Nat) (xs : Nat → Int32) {C M : CS} {o : Nat → Int64} {c s : Nat} {ret : Int32} (h : f_24 M = ret) : mv_E (mp L xs) 24 (0, [some (.ref 18)], []) (HPf C M o, c, s) ((.inl (some (.int ret)), (HPf C M o, c, s))) := by
  unfold f_24 at h
  refine mv_E.rT (t := mt_24) rfl 2 (f' := (4, [some (.ref 18)], [.int (M.1 0)])) (h' := (HPf C M o, c, s)) rfl ?_
  cases h
  exact mv_E.done rfl rfl
def f_66 (M : CS) (p0 : Int32) : Option (Int32) := (if (M.1 1) ≤ p0 then some (-1) else if mv_in p0 2000 = true then some ((M.2 0) p0.toNatClampNeg) else none)
theorem t_66 (L : Nat) (xs : Nat → Int32) {C M : CS} {o : Nat → Int64} {c s : Nat} {p0 : Int32} {ret : Int32} (h : f_66 M p0 = some ret) : mv_E (mp L xs) 66 (0, [some (.ref 18), some (.int p0)], []) (HPf C M o, c, s) ((.inl (some (.int ret)), (HPf C M o, c, s))) := by
  unfold f_66 at h
  refine mv_E.rT (t := mt_66) rfl 3 (f' := (5, [some (.ref 18), some (.int p0)], [.int (M.1 1), .int p0])) (h' := (HPf C M o, c, s)) rfl ?_
  by_cases hc866 : (M.1 1) ≤ p0
  · replace h := (if_pos hc866).symm.trans h
    refine mv_E.go rfl (mi_icmp_pos hc866) ?_
    refine mv_E.rT (t := mt_66) rfl 1 (f' := (18, [some (.ref 18), some (.int p0)], [.int (-1)])) (h' := (HPf C M o, c, s)) rfl ?_
    cases h
    exact mv_E.done rfl rfl
  replace h := (if_neg hc866).symm.trans h
  refine mv_E.go rfl (mi_icmp_neg hc866) ?_
  refine mv_E.rT (t := mt_66) rfl 3 (f' := (13, [some (.ref 18), some (.int p0)], [.int p0, .ref 19])) (h' := (HPf C M o, c, s)) rfl ?_
  by_cases hb865 : mv_in p0 2000 = true
  rotate_left
  · cases (if_neg hb865).symm.trans h
  replace h := (if_pos hb865).symm.trans h
  refine mv_E.go rfl (mi_iald_at rfl hb865) ?_
  refine mv_E.rT (t := mt_66) rfl 1 (f' := (18, [some (.ref 18), some (.int p0)], [.int ((M.2 0) p0.toNatClampNeg)])) (h' := (HPf C M o, c, s)) rfl ?_
  cases h
  exact mv_E.done rfl rfl
def f_67 (p0 : Int32) : Int32 := (if p0 = 9 then 1 else (if p0 = 11 then 1 else (if p0 = 12 then 1 else (if p0 = 32 then 1 else (if ¬ p0 = 160 then 0 else 1)))))
theorem t_67 (L : Nat) (xs : Nat → Int32) {hh : mv_H} {p0 : Int32} {ret : Int32} (h : f_67 p0 = ret) : mv_E (mp L xs) 67 (0, [some (.int p0)], []) hh ((.inl (some (.int ret)), hh)) := by
  unfold f_67 at h
  refine mv_E.rT (t := mt_67) rfl 2 (f' := (3, [some (.int p0)], [.int 9, .int p0])) (h' := hh) rfl ?_
  by_cases hc873 : p0 = 9
  · replace h := (if_pos hc873).symm.trans h
    refine mv_E.go rfl (mi_icmp_pos hc873) ?_
    refine mv_E.rT (t := mt_67) rfl 2 (f' := (36, [some (.int p0)], [.int 1])) (h' := hh) rfl ?_
    cases h
    exact mv_E.done rfl mi_zret1
  replace h := (if_neg hc873).symm.trans h
  refine mv_E.go rfl (mi_icmp_neg hc873) ?_
  refine mv_E.rT (t := mt_67) rfl 2 (f' := (9, [some (.int p0)], [.int 11, .int p0])) (h' := hh) rfl ?_
  by_cases hc872 : p0 = 11
  · replace h := (if_pos hc872).symm.trans h
    refine mv_E.go rfl (mi_icmp_pos hc872) ?_
    refine mv_E.rT (t := mt_67) rfl 2 (f' := (36, [some (.int p0)], [.int 1])) (h' := hh) rfl ?_
    cases h
    exact mv_E.done rfl mi_zret1
  replace h := (if_neg hc872).symm.trans h
  refine mv_E.go rfl (mi_icmp_neg hc872) ?_
  refine mv_E.rT (t := mt_67) rfl 2 (f' := (15, [some (.int p0)], [.int 12, .int p0])) (h' := hh) rfl ?_
  by_cases hc871 : p0 = 12
  · replace h := (if_pos hc871).symm.trans h
    refine mv_E.go rfl (mi_icmp_pos hc871) ?_
    refine mv_E.rT (t := mt_67) rfl 2 (f' := (36, [some (.int p0)], [.int 1])) (h' := hh) rfl ?_
    cases h
    exact mv_E.done rfl mi_zret1
  replace h := (if_neg hc871).symm.trans h
  refine mv_E.go rfl (mi_icmp_neg hc871) ?_
  refine mv_E.rT (t := mt_67) rfl 2 (f' := (21, [some (.int p0)], [.int 32, .int p0])) (h' := hh) rfl ?_
  by_cases hc870 : p0 = 32
  · replace h := (if_pos hc870).symm.trans h
    refine mv_E.go rfl (mi_icmp_pos hc870) ?_
    refine mv_E.rT (t := mt_67) rfl 2 (f' := (36, [some (.int p0)], [.int 1])) (h' := hh) rfl ?_
    cases h
    exact mv_E.done rfl mi_zret1
  replace h := (if_neg hc870).symm.trans h
  refine mv_E.go rfl (mi_icmp_neg hc870) ?_
  refine mv_E.rT (t := mt_67) rfl 2 (f' := (28, [some (.int p0)], [.int 160, .int p0])) (h' := hh) rfl ?_
  by_cases hc869 : ¬ p0 = 160
  · replace h := (if_pos hc869).symm.trans h
    refine mv_E.go rfl (mi_icmp_pos hc869) ?_
    refine mv_E.rT (t := mt_67) rfl 1 (f' := (36, [some (.int p0)], [.int 0])) (h' := hh) rfl ?_
    cases h
    exact mv_E.done rfl mi_zret0
  replace h := (if_neg hc869).symm.trans h
  refine mv_E.go rfl (mi_icmp_neg hc869) ?_
  refine mv_E.rT (t := mt_67) rfl 2 (f' := (36, [some (.int p0)], [.int 1])) (h' := hh) rfl ?_
  cases h
  exact mv_E.done rfl mi_zret1
def f_68 (p0 : Int32) : Int32 := (if p0 = 10 then 1 else (if ¬ p0 = 13 then 0 else 1))
theorem t_68 (L : Nat) (xs : Nat → Int32) {hh : mv_H} {p0 : Int32} {ret : Int32} (h : f_68 p0 = ret) : mv_E (mp L xs) 68 (0, [some (.int p0)], []) hh ((.inl (some (.int ret)), hh)) := by
  unfold f_68 at h
  refine mv_E.rT (t := mt_68) rfl 2 (f' := (3, [some (.int p0)], [.int 10, .int p0])) (h' := hh) rfl ?_
  by_cases hc876 : p0 = 10
  · replace h := (if_pos hc876).symm.trans h
    refine mv_E.go rfl (mi_icmp_pos hc876) ?_
    refine mv_E.rT (t := mt_68) rfl 2 (f' := (17, [some (.int p0)], [.int 1])) (h' := hh) rfl ?_
    cases h
    exact mv_E.done rfl mi_zret1
  replace h := (if_neg hc876).symm.trans h
  refine mv_E.go rfl (mi_icmp_neg hc876) ?_
  refine mv_E.rT (t := mt_68) rfl 2 (f' := (9, [some (.int p0)], [.int 13, .int p0])) (h' := hh) rfl ?_
  by_cases hc875 : ¬ p0 = 13
  · replace h := (if_pos hc875).symm.trans h
    refine mv_E.go rfl (mi_icmp_pos hc875) ?_
    refine mv_E.rT (t := mt_68) rfl 1 (f' := (17, [some (.int p0)], [.int 0])) (h' := hh) rfl ?_
    cases h
    exact mv_E.done rfl mi_zret0
  replace h := (if_neg hc875).symm.trans h
  refine mv_E.go rfl (mi_icmp_neg hc875) ?_
  refine mv_E.rT (t := mt_68) rfl 2 (f' := (17, [some (.int p0)], [.int 1])) (h' := hh) rfl ?_
  cases h
  exact mv_E.done rfl mi_zret1
